section mp_07_lib
-- ===== my library: worlds replaced at places, contracts in one form, calls in one row =====
section LIBA
/-- the value is named -/
def bnd {α ρ : Type} (x : α) (k : α → Option ρ) : Option ρ := k x
theorem bnd_el {α ρ : Type} {x : α} {k : α → Option ρ} {r : ρ} (h : bnd x k = some r) : ∃ y, y = x ∧ k y = some r := ⟨x, rfl, h⟩
def chkin {ρ : Type} (i : Int32) (n : Nat) (k : Option ρ) : Option ρ := if i < 0 ∨ n ≤ i.toNatClampNeg then none else k
theorem chkin_el {ρ : Type} {i : Int32} {n : Nat} {k : Option ρ} {r : ρ} (h : chkin i n k = some r) : vp_in i n ∧ k = some r := by
  unfold chkin at h
  by_cases q : i < 0 ∨ n ≤ i.toNatClampNeg
  · rw [if_pos q] at h; cases h
  · rw [if_neg q] at h; exact ⟨q, h⟩
def chknz {ρ : Type} (i : Int32) (k : Option ρ) : Option ρ := if i = 0 then none else k
theorem chknz_el {ρ : Type} {i : Int32} {k : Option ρ} {r : ρ} (h : chknz i k = some r) : ¬ i = 0 ∧ k = some r := by
  unfold chknz at h
  by_cases q : i = 0
  · rw [if_pos q] at h; cases h
  · rw [if_neg q] at h; exact ⟨q, h⟩
def chkbo {ρ : Type} (i : Int32) (k : Option ρ) : Option ρ := if i = 0 ∨ i = 1 then k else none
theorem chkbo_el {ρ : Type} {i : Int32} {k : Option ρ} {r : ρ} (h : chkbo i k = some r) : (i = 0 ∨ i = 1) ∧ k = some r := by
  unfold chkbo at h
  by_cases q : i = 0 ∨ i = 1
  · rw [if_pos q] at h; exact ⟨q, h⟩
  · rw [if_neg q] at h; cases h
def chkout {ρ : Type} (x : Int32) (lo hi : Int) (k : Option ρ) : Option ρ := if x.toInt < lo ∨ hi < x.toInt then k else none
theorem chkout_el {ρ : Type} {x : Int32} {lo hi : Int} {k : Option ρ} {r : ρ} (h : chkout x lo hi k = some r) : (x.toInt < lo ∨ hi < x.toInt) ∧ k = some r := by
  unfold chkout at h
  by_cases q : x.toInt < lo ∨ hi < x.toInt
  · rw [if_pos q] at h; exact ⟨q, h⟩
  · rw [if_neg q] at h; cases h
theorem ite_t {c : Prop} [Decidable c] {ρ : Type} {a b : Option ρ} {r : ρ} (q : c) (h : (if c then a else b) = some r) : a = some r := by rw [if_pos q] at h; exact h
theorem ite_f {c : Prop} [Decidable c] {ρ : Type} {a b : Option ρ} {r : ρ} (q : ¬ c) (h : (if c then a else b) = some r) : b = some r := by rw [if_neg q] at h; exact h
def bnd0 {ρ : Type} (o : Option Unit) (k : Option ρ) : Option ρ := match o with
  | some _ => k
  | none => none
theorem bnd0_el {ρ : Type} {o : Option Unit} {k : Option ρ} {r : ρ} (h : bnd0 o k = some r) : o = some () ∧ k = some r := by
  cases o with
  | none => cases h
  | some a => exact ⟨rfl, h⟩
def bnd1 {α ρ : Type} (o : Option α) (k : α → Option ρ) : Option ρ := match o with
  | some a => k a
  | none => none
theorem bnd1_el {α ρ : Type} {o : Option α} {k : α → Option ρ} {r : ρ} (h : bnd1 o k = some r) : ∃ a, o = some a ∧ k a = some r := by
  cases o with
  | none => cases h
  | some a => exact ⟨a, rfl, h⟩
def bnd2 {α β ρ : Type} (o : Option (α × β)) (k : α → β → Option ρ) : Option ρ := match o with
  | some a => k a.1 a.2
  | none => none
theorem bnd2_el {α β ρ : Type} {o : Option (α × β)} {k : α → β → Option ρ} {r : ρ} (h : bnd2 o k = some r) : ∃ a b, o = some (a, b) ∧ k a b = some r := by
  cases o with
  | none => cases h
  | some a => exact ⟨a.1, a.2, rfl, h⟩
def bnd3 {α β γ ρ : Type} (o : Option (α × β × γ)) (k : α → β → γ → Option ρ) : Option ρ := match o with
  | some a => k a.1 a.2.1 a.2.2
  | none => none
theorem bnd3_el {α β γ ρ : Type} {o : Option (α × β × γ)} {k : α → β → γ → Option ρ} {r : ρ} (h : bnd3 o k = some r) : ∃ a b c, o = some (a, b, c) ∧ k a b c = some r := by
  cases o with
  | none => cases h
  | some a => exact ⟨a.1, a.2.1, a.2.2, rfl, h⟩
def bnd4 {α β γ δ ρ : Type} (o : Option (α × β × γ × δ)) (k : α → β → γ → δ → Option ρ) : Option ρ := match o with
  | some a => k a.1 a.2.1 a.2.2.1 a.2.2.2
  | none => none
theorem bnd4_el {α β γ δ ρ : Type} {o : Option (α × β × γ × δ)} {k : α → β → γ → δ → Option ρ} {r : ρ} (h : bnd4 o k = some r) : ∃ a b c d, o = some (a, b, c, d) ∧ k a b c d = some r := by
  cases o with
  | none => cases h
  | some a => exact ⟨a.1, a.2.1, a.2.2.1, a.2.2.2, rfl, h⟩
/-- fuel of every loop -/
def FU : Nat := 8589934592
end LIBA
section LIBB
/-- a world with cells replaced: by place, which of wn stands there -/
def wmkA : List (Option Nat) → va_W → va_W → va_W
  | [], ws, _ => ws
  | _ :: _, [], _ => []
  | o :: ms, w :: ws, wn => (match o with
    | none => w
    | some j => wn.getD j w) :: wmkA ms ws wn
def wmk (ws : va_W) (ms : List (Option Nat)) (wn : va_W) : va_W := wmkA ms ws wn
theorem wmk_get : ∀ (ws : va_W) (ms : List (Option Nat)) (wn : va_W) (k : Nat) (q : Nat × va_E), (wmk ws ms wn)[k]? = some q → ∃ w, ws[k]? = some w ∧ ((∃ j : Nat, ms[k]? = some (some j) ∧ q = wn.getD j w) ∨ ((∀ j : Nat, ms[k]? ≠ some (some j)) ∧ q = w))
  | ws, [], wn, k, q, h => ⟨q, h, Or.inr ⟨fun j => by simp, rfl⟩⟩
  | [], o :: ms, wn, k, q, h => by simp [wmk, wmkA] at h
  | w :: ws, none :: ms, wn, 0, q, h => ⟨w, rfl, Or.inr ⟨fun j => by simp, by simpa [wmk, wmkA] using h.symm⟩⟩
  | w :: ws, some j :: ms, wn, 0, q, h => ⟨w, rfl, Or.inl ⟨j, rfl, by simpa [wmk, wmkA] using h.symm⟩⟩
  | w :: ws, none :: ms, wn, k + 1, q, h => by
    obtain ⟨w', h1, h2⟩ := wmk_get ws ms wn k q (by simpa [wmk, wmkA] using h)
    exact ⟨w', by simpa using h1, by simpa using h2⟩
  | w :: ws, some j :: ms, wn, k + 1, q, h => by
    obtain ⟨w', h1, h2⟩ := wmk_get ws ms wn k q (by simpa [wmk, wmkA] using h)
    exact ⟨w', by simpa using h1, by simpa using h2⟩
theorem wmk_len : ∀ (ws : va_W) (ms : List (Option Nat)) (wn : va_W), (wmk ws ms wn).length = ws.length
  | ws, [], _ => rfl
  | [], o :: ms, _ => rfl
  | w :: ws, none :: ms, wn => by have := wmk_len ws ms wn; simp [wmk, wmkA] at this ⊢; exact this
  | w :: ws, some j :: ms, wn => by have := wmk_len ws ms wn; simp [wmk, wmkA] at this ⊢; exact this
/-- 'ms' names by place what 'is' names by number -/
def wmOK (ms : List (Option Nat)) (is : List Nat) : Bool := (List.range ms.length).all (fun k => match ms[k]? with
  | some (some j) => is[j]? == some k
  | _ => !(is.contains k)) && is.all (fun i => Nat.blt i ms.length)
theorem wmOK_some {ms : List (Option Nat)} {is : List Nat} (h : wmOK ms is = true) {k j : Nat} (hk : ms[k]? = some (some j)) : is[j]? = some k := by
  have h1 := (Bool.and_eq_true _ _ ▸ h : _ ∧ _).1
  have hl : k < ms.length := (List.getElem?_eq_some_iff.mp hk).1
  have h2 := List.all_eq_true.mp h1 k (List.mem_range.mpr hl)
  rw [hk] at h2
  simpa using h2
theorem wmOK_none {ms : List (Option Nat)} {is : List Nat} (h : wmOK ms is = true) {k : Nat} (hk : ∀ j : Nat, ms[k]? ≠ some (some j)) : k ∉ is := by
  have h1 := (Bool.and_eq_true _ _ ▸ h : _ ∧ _)
  intro hm
  have hl : k < ms.length := Nat.blt_eq ▸ (List.all_eq_true.mp h1.2 k hm)
  have h2 := List.all_eq_true.mp h1.1 k (List.mem_range.mpr hl)
  cases hq : ms[k]? with
  | none => rw [hq] at h2; simp at h2; exact h2 hm
  | some o =>
    cases o with
    | none => rw [hq] at h2; simp at h2; exact h2 hm
    | some j => exact hk j hq
theorem va_D_fst {A : Nat → Prop} {w1 w2 : va_W} (h : w1.map Prod.fst = w2.map Prod.fst) (hD : va_D A w2) : va_D A w1 := by
  have tr : ∀ (k : Nat) (q : Nat × va_E), w1[k]? = some q → ∃ q', w2[k]? = some q' ∧ q'.1 = q.1 := by
    intro k q hq
    have : (w2.map Prod.fst)[k]? = some q.1 := by rw [← h, List.getElem?_map, hq]; rfl
    rw [List.getElem?_map] at this
    cases h2 : w2[k]? with
    | none => rw [h2] at this; cases this
    | some q' => rw [h2] at this; exact ⟨q', rfl, Option.some.inj this⟩
  refine ⟨fun i j p q hp hq e => ?_, fun k q hq => ?_⟩
  · obtain ⟨p', h1, e1⟩ := tr i p hp
    obtain ⟨q', h2, e2⟩ := tr j q hq
    exact hD.1 i j p' q' h1 h2 (by rw [e1, e2, e])
  · obtain ⟨q', h1, e1⟩ := tr k q hq
    rw [← e1]; exact hD.2 k q' h1
theorem wat {is : List Nat} {ws w : va_W} (hs : is.map (fun i => ws[i]?) = w.map some) (k : Nat) (q : Nat × va_E) (hq : w[k]? = some q) : ∃ i : Nat, is[k]? = some i ∧ ws[i]? = some q := by
  have h1 : (is.map (fun i => ws[i]?))[k]? = some (some q) := by rw [hs, List.getElem?_map, hq]; rfl
  rw [List.getElem?_map] at h1
  cases hi : is[k]? with
  | none => rw [hi] at h1; cases h1
  | some i => rw [hi] at h1; exact ⟨i, rfl, Option.some.inj h1⟩
theorem va_P_pick {D : va_G} {cl : List vw_C} {is : List Nat} {ws wc : va_W} {H : Heap} (hP : va_P D cl ws H) (hC : is.map (fun i => ws[i]?) = wc.map some) : va_P D cl wc H := fun k q hq => by
  obtain ⟨i, -, h⟩ := wat hC k q hq
  exact hP i q h
theorem wmk_P {A : Nat → Prop} {D : va_G} {cl : List vw_C} {ws wc wn : va_W} {H H1 : Heap} (hP : va_P D cl ws H) (hD : va_D A ws) (is : List Nat) (ms : List (Option Nat)) (hm : wmOK ms is = true) (hC : is.map (fun i => ws[i]?) = wc.map some) (hf : wn.map Prod.fst = wc.map Prod.fst)
    (hk : ∀ q : Nat, q < H.size → ¬ va_A wc H.size q → H1[q]? = H[q]?) (hP1 : va_P D cl wn H1) : va_P D cl (wmk ws ms wn) H1 ∧ va_D A (wmk ws ms wn) := by
  have hlen : wn.length = wc.length := by simpa using congrArg List.length hf
  have key : ∀ (j k : Nat) (w : Nat × va_E), is[j]? = some k → ws[k]? = some w → wc[j]? = some w := by
    intro j k w h1 h2
    have h3 : (is.map (fun i => ws[i]?))[j]? = some (some w) := by rw [List.getElem?_map, h1]; simp [h2]
    rw [hC, List.getElem?_map] at h3
    cases hq : wc[j]? with
    | none => rw [hq] at h3; cases h3
    | some z => rw [hq] at h3; exact Option.some.inj h3
  have new : ∀ (j : Nat) (w : Nat × va_E), wc[j]? = some w → ∃ q, wn[j]? = some q ∧ q.1 = w.1 := by
    intro j w h1
    have hl : j < wn.length := by rw [hlen]; exact (List.getElem?_eq_some_iff.mp h1).1
    refine ⟨wn[j], List.getElem?_eq_getElem hl, ?_⟩
    have h2 : (wn.map Prod.fst)[j]? = some w.1 := by rw [hf, List.getElem?_map, h1]; rfl
    rw [List.getElem?_map, List.getElem?_eq_getElem hl] at h2
    exact Option.some.inj h2
  refine ⟨fun k q h => ?_, va_D_fst ?_ hD⟩
  · obtain ⟨w, h1, h2⟩ := wmk_get ws ms wn k q h
    rcases h2 with ⟨j, g1, g2⟩ | ⟨g1, g2⟩
    · obtain ⟨q', e1, e2⟩ := new j w (key j k w (wmOK_some hm g1) h1)
      have : q = q' := by rw [g2, List.getD_eq_getElem?_getD, e1]; rfl
      rw [this]; exact hP1 j q' e1
    · subst g2
      have hl := (hP k q h1).lt
      refine (hP k q h1).kept (hk q.1 hl fun ha => ?_)
      rcases ha with ⟨k2, e, h3⟩ | h3
      · obtain ⟨i, z1, z2⟩ := wat hC k2 (q.1, e) h3
        have := hD.1 k i q (q.1, e) h1 z2 rfl
        subst this
        exact wmOK_none hm g1 (List.mem_of_getElem? z1)
      · omega
  · apply List.ext_getElem?
    intro k
    rw [List.getElem?_map, List.getElem?_map]
    cases hq : (wmk ws ms wn)[k]? with
    | none =>
      have : ws[k]? = none := List.getElem?_eq_none (by rw [← wmk_len ws ms wn]; exact List.getElem?_eq_none_iff.mp hq)
      rw [this]
    | some q =>
      obtain ⟨w, h1, h2⟩ := wmk_get ws ms wn k q hq
      rw [h1]
      rcases h2 with ⟨j, g1, g2⟩ | ⟨g1, g2⟩
      · obtain ⟨q', e1, e2⟩ := new j w (key j k w (wmOK_some hm g1) h1)
        have : q = q' := by rw [g2, List.getD_eq_getElem?_getD, e1]; rfl
        simp [this, e2]
      · rw [g2]
end LIBB
end mp_07_lib
section mp_08_libc
def nwL : List Cond := [.fieldLinkNest RX7 9 "NoiseWatch" "FIRST" "[I" "NoiseWatch", .fieldLinkNest RX5 56 "NoiseWatch$Settings" "stuckCount" "I" "NoiseWatch", .fieldLinkNest RX11 95 "NoiseWatch$Settings" "stuckCount" "I" "NoiseWatch", .fieldLinkNest RX10 149 "NoiseWatch$Settings" "stuckCount" "I" "NoiseWatch", .fieldLinkNest RX10 191 "NoiseWatch$Odds" "repeats" "I" "NoiseWatch", .fieldLinkNest RX11 138 "NoiseWatch$Odds" "repeats" "I" "NoiseWatch", .fieldLinkNest RX10 194 "NoiseWatch$Odds" "proportion" "I" "NoiseWatch", .fieldLinkNest RX11 141 "NoiseWatch$Odds" "proportion" "I" "NoiseWatch", .fieldLinkNest RX10 197 "NoiseWatch$Odds" "changes" "I" "NoiseWatch", .fieldLinkNest RX11 144 "NoiseWatch$Odds" "changes" "I" "NoiseWatch", .fieldLinkNest RX10 152 "NoiseWatch$Source" "drawn" "I" "NoiseWatch", .fieldLinkNest RX2 53 "NoiseWatch$Counts" "alike" "I" "NoiseWatch", .fieldLinkNest RX10 155 "NoiseWatch$Counts" "alike" "I" "NoiseWatch", .fieldLinkNest RX10 158 "NoiseWatch$Counts" "inWindow" "I" "NoiseWatch", .fieldLinkNest RX2 58 "NoiseWatch$Counts" "like" "I" "NoiseWatch", .fieldLinkNest RX10 161 "NoiseWatch$Counts" "like" "I" "NoiseWatch", .fieldLinkNest RX2 61 "NoiseWatch$Counts" "unlike" "I" "NoiseWatch", .fieldLinkNest RX10 164 "NoiseWatch$Counts" "unlike" "I" "NoiseWatch", .fieldLinkNest RX0 37 "NoiseWatch$Queue" "size" "I" "NoiseWatch", .fieldLinkNest RX3 55 "NoiseWatch$Queue" "size" "I" "NoiseWatch", .fieldLinkNest RX10 121 "NoiseWatch$Queue" "size" "I" "NoiseWatch", .fieldLinkNest RX11 248 "NoiseWatch$Queue" "size" "I" "NoiseWatch", .fieldLinkNest RX10 170 "NoiseWatch$Pool" "bits" "LNoiseWatch$Queue;" "NoiseWatch", .fieldLinkNest RX11 178 "NoiseWatch$Pool" "bits" "LNoiseWatch$Queue;" "NoiseWatch", .fieldLinkNest RX10 167 "NoiseWatch$Pool" "inBlock" "I" "NoiseWatch", .fieldLinkNest RX10 173 "NoiseWatch$Pool" "came" "I" "NoiseWatch", .fieldLinkNest RX10 176 "NoiseWatch$Pool" "wasted" "I" "NoiseWatch", .fieldLinkNest RX10 179 "NoiseWatch$Pool" "taken" "I" "NoiseWatch", .fieldLinkNest RX10 182 "NoiseWatch$Pool" "gone" "I" "NoiseWatch", .fieldLinkNest RX10 185 "NoiseWatch$Rows" "size" "I" "NoiseWatch", .fieldLinkNest RX5 84 "NoiseWatch$Text" "size" "I" "NoiseWatch", .fieldLinkNest RX10 186 "NoiseWatch$Text" "size" "I" "NoiseWatch", .fieldLinkNest RX11 99 "NoiseWatch$Text" "fault" "I" "NoiseWatch", .fieldLinkNest RX11 98 "NoiseWatch$Text" "place" "I" "NoiseWatch", .fieldLinkNest RX11 79 "NoiseWatch$Watch" "settings" "LNoiseWatch$Settings;" "NoiseWatch", .fieldLinkNest RX11 135 "NoiseWatch$Watch" "limits" "LNoiseWatch$Odds;" "NoiseWatch", .fieldLinkNest RX11 120 "NoiseWatch$Watch" "pool" "LNoiseWatch$Pool;" "NoiseWatch", .fieldLinkNest RX11 169 "NoiseWatch$Watch" "heard" "LNoiseWatch$Queue;" "NoiseWatch", .fieldLinkNest RX11 181 "NoiseWatch$Watch" "rows" "LNoiseWatch$Rows;" "NoiseWatch", .fieldLinkNest RX11 54 "NoiseWatch$Watch" "text" "LNoiseWatch$Text;" "NoiseWatch", .fieldLinkNest RX11 106 "NoiseWatch$Watch" "status" "I" "NoiseWatch", .fieldLinkNest RX11 103 "NoiseWatch$Watch" "starts" "I" "NoiseWatch", .fieldLinkNest RX11 83 "NoiseWatch$Reader" "draft" "LNoiseWatch$Settings;" "NoiseWatch", .fieldLinkNest RX11 68 "NoiseWatch$Reader" "fault" "I" "NoiseWatch", .fieldLinkNest RX11 72 "NoiseWatch$Reader" "place" "I" "NoiseWatch", .fieldLinkNest RX11 205 "NoiseWatch$Bounds" "above" "I" "NoiseWatch", .fieldLinkNest RX11 202 "NoiseWatch$Bounds" "below" "I" "NoiseWatch", .fieldLinkNest RX5 70 "NoiseWatch" "LEAST" "[I" "NoiseWatch", .fieldLinkNest RX5 73 "NoiseWatch" "MOST" "[I" "NoiseWatch", .methodLinkNest RX10 11 yX7_init "NoiseWatch", .methodLinkNest RX10 20 yX2_init "NoiseWatch", .methodLinkNest RX10 27 yX8_init "NoiseWatch", .methodLinkNest RX10 34 yX1_init "NoiseWatch", .methodLinkNest RX10 41 yX3_init "NoiseWatch", .methodLinkNest RX3 11 yX4_init "NoiseWatch", .methodLinkNest RX10 48 yX4_init "NoiseWatch", .methodLinkNest RX10 55 yX6_init "NoiseWatch", .methodLinkNest RX10 62 yX9_init "NoiseWatch", .methodLinkNest RX11 25 yX5_init "NoiseWatch", .methodLinkNest RX5 11 yX7_init "NoiseWatch", .methodLinkNest RX11 32 yX0_init "NoiseWatch", .methodLinkNest RX11 39 yX2_init "NoiseWatch", .methodLinkNest RX11 46 yX1_init "NoiseWatch"]
def isNest (w : Cond) : Bool := match w with
  | .fieldLinkNest _ _ _ _ _ _ => true
  | .methodLinkNest _ _ _ _ => true
  | _ => false
theorem nwL_nest : nwL.all isNest = true := by decide +kernel
def NW0 (U : State) : Prop := ∀ w ∈ nwL, va_Nw w U
theorem NW0.warm {s U : State} (hW : s.WarmedH U.vm) (h : NW0 s) : NW0 U := by
  intro w hw
  have h1 := List.all_eq_true.mp nwL_nest w hw
  have h2 := h w hw
  cases w <;> first | exact va_Nw.warmF hW h2 | exact va_Nw.warmM hW h2 | cases h1
theorem NW0.same {s U : State} (hv : s.vm = U.vm) (h : NW0 s) : NW0 U := by
  intro w hw
  have h1 := List.all_eq_true.mp nwL_nest w hw
  have h2 := h w hw
  cases w <;> first | exact va_Nw.same rfl hv h2 | cases h1
/-- the words of the throw in NoiseWatch.limit -/
def atL : List Cond := vx_at0 RX11 156 "java/util/NoSuchElementException" ["java/lang/RuntimeException", "java/lang/Exception"]
def isCast (w : Cond) : Bool := match w with
  | .castable _ _ => true
  | .declares _ => true
  | _ => false
theorem atL_ok : atL.all (fun w => (w.onTables && w.keeps) || isCast w) = true := by decide +kernel
def NWX (U : State) : Prop := ∀ w ∈ atL, va_Nw w U
theorem NWX.warm {s U : State} (hW : s.WarmedH U.vm) (h : NWX s) : NWX U := by
  intro w hw
  have h1 := List.all_eq_true.mp atL_ok w hw
  have h2 := h w hw
  rcases Bool.or_eq_true _ _ ▸ h1 with h3 | h3
  · exact word_at hW (Or.inl h3) h2
  · cases w <;> first | exact va_Nw.warmC hW h2 | exact va_Nw.warmD hW h2 | cases h3
theorem NWX.same {s U : State} (hv : s.vm = U.vm) (h : NWX s) : NWX U := by
  intro w hw
  have h1 := List.all_eq_true.mp atL_ok w hw
  have h2 := h w hw
  have h3 : w.onTables = true := by
    rcases Bool.or_eq_true _ _ ▸ h1 with h3 | h3
    · exact (Bool.and_eq_true _ _ ▸ h3 : _ ∧ _).1
    · cases w <;> first | rfl | cases h3
  exact va_Nw.same h3 hv h2
def NW (U : State) : Prop := NW0 U ∧ va_Nw (.castable "[I" "java/lang/Cloneable") U ∧ va_AO "NoiseWatch$Watch" U ∧ NWX U
theorem NW.warm {s U : State} (hW : s.WarmedH U.vm) (h : NW s) : NW U := ⟨h.1.warm hW, va_Nw.warmC hW h.2.1, va_AO.moved hW.alike h.2.2.1, h.2.2.2.warm hW⟩
theorem NW.same {s U : State} (hv : s.vm = U.vm) (h : NW s) : NW U := ⟨h.1.same hv, va_Nw.same rfl hv h.2.1, va_AO.moved (hv ▸ Vm.Alike.refl s.vm) h.2.2.1, h.2.2.2.same hv⟩
theorem NW.get {s : State} {w : Cond} (h : NW s) (i : Nat) (hi : nwL[i]? = some w) : va_Nw w s := h.1 w (List.mem_of_getElem? hi)
theorem NW.use {s : State} {args : Array Value} {w : Cond} (h : NW s) (i : Nat) (hi : nwL[i]? = some w) : w.before args s = true := by
  have hm := List.mem_of_getElem? hi
  have h1 := List.all_eq_true.mp nwL_nest w hm
  have h2 := h.1 w hm
  cases w <;> first | exact va_Nw.use rfl h2 | cases h1
/-- the static arrays -/
def stF : Nat → Int32 := fun j => if j = 0 then 10 else if j = 1 then 20 else if j = 2 then 15 else if j = 3 then 32 else if j = 4 then 16 else if j = 5 then 4 else if j = 6 then 8 else if j = 7 then 0 else 1
def stL : Nat → Int32 := fun j => if j = 0 then 8 else if j = 1 then 1 else if j = 2 then 4 else if j = 3 then 0 else if j = 4 then 2 else if j = 5 then 1 else if j = 6 then 0 else if j = 7 then 0 else 0
def stM : Nat → Int32 := fun j => if j = 0 then 15 else if j = 1 then 40 else if j = 2 then 15 else if j = 3 then 200 else if j = 4 then 64 else if j = 5 then 16 else if j = 6 then 16 else if j = 7 then 15 else 9999
def ZC (t : Nat) (U : State) (H : Heap) : Prop := ∃ cell : Cell, H[t]? = some cell ∧ cell.slots.size = 9 ∧ U.vm.findClass "[I" = some cell.cls
def ZS1 (n : String) (t : Nat) (f : Nat → Int32) (A : Nat → Prop) (U : State) (H : Heap) : Prop := va_Z "NoiseWatch" n "[I" (.ref t) A U H ∧ va_T .int t 9 (fun j => .int (f j)) A U H ∧ ZC t U H
theorem ZS1.kept {n : String} {t : Nat} {f : Nat → Int32} {A : Nat → Prop} {U : State} {H H1 : Heap} (h : ZS1 n t f A U H) (hq : ∀ a : Nat, a < H.size → ¬ A a → H1[a]? = H[a]?) : ZS1 n t f A U H1 := ⟨h.1.kept hq, h.2.1.kept hq, by
  obtain ⟨cell, h1, h2⟩ := h.2.2
  exact ⟨cell, (hq t (Array.getElem?_eq_some_iff.mp h1).1 h.2.1.out).trans h1, h2⟩⟩
theorem ZS1.narrow {n : String} {t : Nat} {f : Nat → Int32} {A B : Nat → Prop} {U : State} {H : Heap} (h : ZS1 n t f A U H) (hAB : ∀ q, B q → A q) : ZS1 n t f B U H := ⟨h.1.narrow hAB, h.2.1.narrow hAB, h.2.2⟩
theorem ZS1.moved {n : String} {t : Nat} {f : Nat → Int32} {A : Nat → Prop} {u U : State} {H : Heap} (hvm : u.vm.Alike U.vm) (h : ZS1 n t f A u H) : ZS1 n t f A U H := ⟨h.1.moved hvm, h.2.1.moved hvm, by
  obtain ⟨cell, h1, h2, h3⟩ := h.2.2
  exact ⟨cell, h1, h2, by rw [hvm.findClass]; exact h3⟩⟩
abbrev ZU (A : Nat → Prop) (U : State) (H : Heap) : Prop := vx_Zq Bundle.tN "UNASSIGNED_STACK" Bundle.steD A U H ∧ vx_Zq Bundle.tN "SUPPRESSED_SENTINEL" Bundle.listD A U H
/-- the ten words of the Reader -/
def lenS : List Nat := [6, 3, 6, 5, 5, 3, 4, 5, 4, 5]
def bytS : List (List Int32) := [[99, 104, 97, 110, 99, 101], [108, 111, 103], [119, 105, 110, 100, 111, 119], [115, 116, 97, 114, 116], [98, 108, 111, 99, 107], [111, 117, 116], [98, 105, 97, 115], [115, 116, 105, 99, 107], [115, 101, 101, 100], [115, 116, 117, 99, 107]]
def txtS : List String := ["chance", "log", "window", "start", "block", "out", "bias", "stick", "seed", "stuck"]
def ZT (zz : Nat → Nat) (A : Nat → Prop) (U : State) (H : Heap) : Prop := vk_S 10 lenS bytS (fun i => zz (10 + i)) (fun i => zz (30 + i)) A U H ∧ va_Z "java/lang/String" "COMPACT_STRINGS" "Z" (.int 1) A U H ∧ va_Zq "jdk/internal/util/Preconditions" "SIOOBE_FORMATTER" "Ljava/util/function/BiFunction;" A U H ∧ ∀ i : Nat, i < 10 → vk_R RX5 (117 + 2 * i) (txtS.getD i "") (zz (10 + i)) U
theorem ZT.kept {zz : Nat → Nat} {A : Nat → Prop} {U : State} {H H1 : Heap} (h : ZT zz A U H) (hq : ∀ a : Nat, a < H.size → ¬ A a → H1[a]? = H[a]?) : ZT zz A U H1 := ⟨h.1.kept hq, h.2.1.kept hq, h.2.2.1.kept hq, h.2.2.2⟩
theorem ZT.narrow {zz : Nat → Nat} {A B : Nat → Prop} {U : State} {H : Heap} (h : ZT zz A U H) (hAB : ∀ q, B q → A q) : ZT zz B U H := ⟨h.1.narrow hAB, h.2.1.narrow hAB, h.2.2.1.narrow hAB, h.2.2.2⟩
theorem ZT.warm {zz : Nat → Nat} {A : Nat → Prop} {s U : State} {H : Heap} (hW : s.WarmedH U.vm) (h : ZT zz A s H) : ZT zz A U H := ⟨h.1.moved hW.alike, h.2.1.moved hW.alike, h.2.2.1.moved hW.alike, fun i hi => (h.2.2.2 i hi).warm hW⟩
theorem ZT.same {zz : Nat → Nat} {A : Nat → Prop} {s U : State} {H : Heap} (hv : s.vm = U.vm) (h : ZT zz A s H) : ZT zz A U H := ⟨h.1.moved (hv ▸ Vm.Alike.refl s.vm), h.2.1.moved (hv ▸ Vm.Alike.refl s.vm), h.2.2.1.moved (hv ▸ Vm.Alike.refl s.vm), fun i hi => (h.2.2.2 i hi).same hv.symm⟩
def ZS (zz : Nat → Nat) (A : Nat → Prop) (U : State) (H : Heap) : Prop := ZS1 "FIRST" (zz 0) stF A U H ∧ ZS1 "LEAST" (zz 1) stL A U H ∧ ZS1 "MOST" (zz 2) stM A U H ∧ ZU A U H ∧ ZT zz A U H
theorem ZS.kept {zz : Nat → Nat} {A : Nat → Prop} {U : State} {H H1 : Heap} (h : ZS zz A U H) (hq : ∀ a : Nat, a < H.size → ¬ A a → H1[a]? = H[a]?) : ZS zz A U H1 := ⟨h.1.kept hq, h.2.1.kept hq, h.2.2.1.kept hq, ⟨h.2.2.2.1.1.kept hq, h.2.2.2.1.2.kept hq⟩, h.2.2.2.2.kept hq⟩
theorem ZS.narrow {zz : Nat → Nat} {A B : Nat → Prop} {U : State} {H : Heap} (h : ZS zz A U H) (hAB : ∀ q, B q → A q) : ZS zz B U H := ⟨h.1.narrow hAB, h.2.1.narrow hAB, h.2.2.1.narrow hAB, ⟨h.2.2.2.1.1.narrow hAB, h.2.2.2.1.2.narrow hAB⟩, h.2.2.2.2.narrow hAB⟩
theorem ZS.warm {zz : Nat → Nat} {A : Nat → Prop} {s U : State} {H : Heap} (hW : s.WarmedH U.vm) (h : ZS zz A s H) : ZS zz A U H := ⟨h.1.moved hW.alike, h.2.1.moved hW.alike, h.2.2.1.moved hW.alike, ⟨h.2.2.2.1.1.moved hW.alike, h.2.2.2.1.2.moved hW.alike⟩, h.2.2.2.2.warm hW⟩
theorem ZS.same {zz : Nat → Nat} {A : Nat → Prop} {s U : State} {H : Heap} (hv : s.vm = U.vm) (h : ZS zz A s H) : ZS zz A U H := ⟨h.1.moved (hv ▸ Vm.Alike.refl s.vm), h.2.1.moved (hv ▸ Vm.Alike.refl s.vm), h.2.2.1.moved (hv ▸ Vm.Alike.refl s.vm), ⟨h.2.2.2.1.1.moved (hv ▸ Vm.Alike.refl s.vm), h.2.2.2.1.2.moved (hv ▸ Vm.Alike.refl s.vm)⟩, h.2.2.2.2.same hv⟩
abbrev TY (ca : Nat → ClassId) : List (ClassId × FieldType) := [(ca 0, .int), (ca 1, .long), (ca 2, .byte), (ca 3, .boolean), (ca 4, .object "NoiseWatch$Watch")]
/-- a contract's start: the world ws, nothing else said -/
def PR (D : va_G) (ca : Nat → ClassId) (zz : Nat → Nat) (av : List Value) (sz : Nat) (ws : va_W) : Array Value → State → Prop := va_Pc av (fun U => U.heap.size = sz ∧ va_P D vwCl ws U.heap ∧ va_K D vwCl (TY ca) U ∧ va_D (fun _ => True) ws ∧ NW U ∧ ZS zz (va_A ws sz) U U.heap)
theorem PR_blind {D : va_G} {ca : Nat → ClassId} {zz : Nat → Nat} {av : List Value} {sz : Nat} {ws : va_W} : FrameBlind (PR D ca zz av sz ws) := by
  intro a U g mk q
  obtain ⟨q0, q1, qP, qK, qD, qN, qZ⟩ := q
  exact ⟨q0, q1, qP, va_K.moved (u := U) (U := U.calling g mk a) (Vm.Alike.refl U.vm) qK, qD, NW.same (s := U) (U := U.calling g mk a) rfl qN, ZS.same (s := U) (U := U.calling g mk a) rfl qZ⟩
abbrev QI (D : va_G) (ca : Nat → ClassId) (r : Int32) (ws : va_W) (A : Nat → Prop) : Array Value → State → Outcome → State → Prop := va_Qi (fun (r' : Int32) (_ : Unit) => r' = r) (fun _ t => va_P D vwCl ws t.heap ∧ va_K D vwCl (TY ca) t ∧ va_D A ws) A
abbrev QL (D : va_G) (ca : Nat → ClassId) (r : Int64) (ws : va_W) (A : Nat → Prop) : Array Value → State → Outcome → State → Prop := va_Ql (fun (r' : Int64) (_ : Unit) => r' = r) (fun _ t => va_P D vwCl ws t.heap ∧ va_K D vwCl (TY ca) t ∧ va_D A ws) A
abbrev QV (D : va_G) (ca : Nat → ClassId) (ws : va_W) (A : Nat → Prop) : Array Value → State → Outcome → State → Prop := va_Qv (fun (_ : Unit) => True) (fun _ t => va_P D vwCl ws t.heap ∧ va_K D vwCl (TY ca) t ∧ va_D A ws) A
section LIBC
variable {p : Program} {l : Launch} {e : Env} {R : Room} {s : State} {m : MethodId} {args : Array Value} {below : List Frame} {meth : Method} {c : Code} {H : Heap} {locs : List Loc} {cells slots : Nat} {Q : State → Prop} {A : Nat → Prop} {D : va_G} {ca : Nat → ClassId} {zz : Nat → Nat} {cc : ByteArray} {pc : Nat} {ls : Array Slot} {rest : List Value}
theorem pr_mk {av : List Value} {wc : va_W} (hP : va_P D vwCl wc H) (hK : va_K D vwCl (TY ca) s) (hD : va_D A wc) (hN : NW s) (hZ : ZS zz A s s.heap) (hS : va_S A s.heap H locs) (hF : ∀ q, va_A wc H.size q → A q) : ∀ U : State, U.heap = H → s.WarmedH U.vm → PR D ca zz av H.size wc av.toArray U := by
  intro U hU hW
  refine ⟨rfl, by rw [hU], by rw [hU]; exact hP, va_K.moved hW.alike hK, hD.weaken (fun _ _ _ _ => trivial), NW.warm hW hN, ?_⟩
  rw [hU]
  exact ((hZ.kept hS.2.1).narrow hF).warm hW
/-- a method's entry -/
theorem en {y : MethodName} {wsm ws' : List Cond} {rm : Room} {maxL : Nat} {ret : Option FieldType} {av : List Value} {sz mc ms : Nat} {ws : va_W} {Qf : (Nat → Prop) → Array Value → State → Outcome → State → Prop} (hy : plainName y.cls = true) (hw : wsm = Cond.code y cc maxL ret :: ws') (hlen : (lg_sl av).length ≤ maxL)
    (body : ∀ (p : Program) (e : Env) (s : State) (m : MethodId) (args : Array Value) (below : List Frame) (meth : Method) (c : Code) (A : Nat → Prop) (Q : State → Prop) (ls : Array Slot),
      p.tables.exec = Jvm.exec → c.code = cc → meth.sig.returnType = ret → c.maxLocals = maxL → s.vm.findClass y.cls = some m.cls → (∀ w ∈ wsm, w.before args s = true) → meth.locks = false → meth.name = y.name →
      (∀ q : Nat, s.heap.size ≤ q → A q) → NW s → ZS zz A s s.heap → va_K D vwCl (TY ca) s → Q = MQ below (Qf A) args s mc ms A → va_P D vwCl ws s.heap → va_D A ws → va_S A s.heap s.heap [] → lv_has ls maxL (lv_args 0 av) →
      W p l e rm s m args below meth c s.heap [] 0 0 Q (F0 m 0 ls [])) :
    Met l y wsm rm (PR D ca zz av sz ws) (Qf (va_A ws sz)) mc ms (va_A ws sz) := by
  refine Met.ofW (cc := cc) (maxL := maxL) (ret := ret) hy hw ?_
  intro p e s m args below meth c s₁ B hml hv
  obtain ⟨rfl, hsz, hP, hK, hD0, hN, hZ⟩ := hv
  subst hsz
  have hl := lv_entry av (n := maxL) hlen
  rw [lg_entry_eq]
  exact body p e s m _ below meth c (va_A ws s.heap.size) _ _ B.exec B.bytes B.returns hml (findClass_of_methodNamed B.named) (atoms_spec (ws := wsm) B.pre) B.notSynchronized (name_of_methodNamed B.named B.method).1 (fun q h => Or.inr h) hN hZ hK rfl hP (hD0.self (sz := s.heap.size)) va_S.rf hl
theorem lv_nm {x y : Int32} (h : y = x) (k : W p l e R s m args below meth c H locs cells slots Q (F0 m pc ls (.int y :: rest))) : W p l e R s m args below meth c H locs cells slots Q (F0 m pc ls (.int x :: rest)) := h ▸ k
theorem lv_nml {x y : Int64} (h : y = x) (k : W p l e R s m args below meth c H locs cells slots Q (F0 m pc ls (.long y :: rest))) : W p l e R s m args below meth c H locs cells slots Q (F0 m pc ls (.long x :: rest)) := h ▸ k
theorem rt_I {ws wn : va_W} {v r : Int32} (hx : p.tables.exec = Jvm.exec) (hb : c.code = cc) (hr : meth.sig.returnType = some .int) (hlocks : meth.locks = false) (hK : va_K D vwCl (TY ca) s) (hP : va_P D vwCl ws H) (hD : va_D A ws) (hS : va_S A s.heap H locs) (hQ : Q = MQ below (QI D ca r wn A) args s 0 0 A) (ev : v = r) (ew : ws = wn) (hdg : decode cc pc = .ok (.ireturn, 1)) : W p l e R s m args below meth c H locs 0 0 Q (F0 m pc ls [.int v]) := by
  subst ev; subst ew; subst hQ
  exact W.iret hx hb hr (fun t ht hW => ⟨⟨v, (), rfl, rfl, by rw [ht]; exact hP, va_K.moved hW.alike hK, hD⟩, hS.F ht⟩) hS.2.2 hdg
theorem rt_Z {ws wn : va_W} {v r : Int32} (hx : p.tables.exec = Jvm.exec) (hb : c.code = cc) (hr : meth.sig.returnType = some .boolean) (hlocks : meth.locks = false) (hK : va_K D vwCl (TY ca) s) (hP : va_P D vwCl ws H) (hD : va_D A ws) (hS : va_S A s.heap H locs) (hQ : Q = MQ below (QI D ca r wn A) args s 0 0 A) (hv : v = 0 ∨ v = 1) (ev : v = r) (ew : ws = wn) (hdg : decode cc pc = .ok (.ireturn, 1)) : W p l e R s m args below meth c H locs 0 0 Q (F0 m pc ls [.int v]) := by
  subst ev; subst ew; subst hQ
  exact W.zret hx hb hr (by rcases hv with h | h <;> (rw [h]; rfl)) (fun t ht hW => ⟨⟨v, (), rfl, rfl, by rw [ht]; exact hP, va_K.moved hW.alike hK, hD⟩, hS.F ht⟩) hS.2.2 hdg
theorem rt_L {ws wn : va_W} {v r : Int64} (hx : p.tables.exec = Jvm.exec) (hb : c.code = cc) (hr : meth.sig.returnType = some .long) (hlocks : meth.locks = false) (hK : va_K D vwCl (TY ca) s) (hP : va_P D vwCl ws H) (hD : va_D A ws) (hS : va_S A s.heap H locs) (hQ : Q = MQ below (QL D ca r wn A) args s 0 0 A) (ev : v = r) (ew : ws = wn) (hdg : decode cc pc = .ok (.lreturn, 1)) : W p l e R s m args below meth c H locs 0 0 Q (F0 m pc ls [.long v]) := by
  subst ev; subst ew; subst hQ
  exact W.lret hx hb hr (fun t ht hW => ⟨⟨v, (), rfl, rfl, by rw [ht]; exact hP, va_K.moved hW.alike hK, hD⟩, hS.F ht⟩) hS.2.2 hdg
theorem rt_V {ws wn : va_W} (hx : p.tables.exec = Jvm.exec) (hb : c.code = cc) (hr : meth.sig.returnType = none) (hlocks : meth.locks = false) (hK : va_K D vwCl (TY ca) s) (hP : va_P D vwCl ws H) (hD : va_D A ws) (hS : va_S A s.heap H locs) (hQ : Q = MQ below (QV D ca wn A) args s 0 0 A) (ew : ws = wn) (hdg : decode cc pc = .ok (.return_, 1)) : W p l e R s m args below meth c H locs 0 0 Q (F0 m pc ls []) := by
  subst ew; subst hQ
  exact W.vret hx hb hr (fun t ht hW => ⟨⟨(), rfl, trivial, by rw [ht]; exact hP, va_K.moved hW.alike hK, hD⟩, hS.F ht⟩) hS.2.2 hdg
end LIBC
section LIBD
variable {p : Program} {l : Launch} {e : Env} {R : Room} {s : State} {m : MethodId} {args : Array Value} {below : List Frame} {meth : Method} {c : Code} {H : Heap} {locs : List Loc} {cells slots : Nat} {Q : State → Prop} {A : Nat → Prop} {D : va_G} {ca : Nat → ClassId} {zz : Nat → Nat} {cc bytes : ByteArray} {pc : Nat} {ls : Array Slot} {rest st0 As : List Value}
variable {nL maxL n index ci N : Nat} {Ts wsm : List Cond} {own C : String} {y : MethodName} {ret : Option FieldType} {rm : Room} {b : Nat} {wc wn ws : va_W} {T : u_T} {fs : List Value}
theorem cV_I {r : Int32} (S : CallFix p m c cc nL s args Ts own) (hM : Met l y wsm rm (PR D ca zz (.ref b :: As) H.size wc) (QI D ca r wn (va_A wc H.size)) 0 0 (va_A wc H.size)) (cw : CallW R s args own C index y bytes maxL ret wsm rm 0 0 n)
    (hK : va_K D vwCl (TY ca) s) (hN : NW s) (hZ : ZS zz A s s.heap) (hA : ∀ q, s.heap.size ≤ q → A q) (hP : va_P D vwCl ws H) (hD : va_D A ws) (hS : va_S A s.heap H locs) (is : List Nat) (ms : List (Option Nat)) (hm : wmOK ms is = true) (hC : is.map (fun i => ws[i]?) = wc.map some) (hnd : va_nd is = true) (hf : wn.map Prod.fst = wc.map Prod.fst)
    (hc : vwCl[ci]? = some (C, T, N)) (q0 : Nat) (he : ws[q0]? = some (b, .inr (ci, fs))) (hn : As.length = n) (hsz : ls.size = nL) (hst : st0 = As.reverse ++ .ref b :: rest) (hW : (rest.map fun v => v.category).sum ≤ 8) (hdg : decode cc pc = .ok (.invokevirtual index, 3)) (hcr : cells ≤ R.cells ∧ slots ≤ R.slots)
    (kk : ∀ (H1 : Heap) (locs1 : List Loc), va_P D vwCl (wmk ws ms wn) H1 → va_D A (wmk ws ms wn) → va_S A s.heap H1 locs1 → W p l e R s m args below meth c H1 locs1 cells slots Q (F0 m (pc + 3) ls (.int r :: rest))) : W p l e R s m args below meth c H locs cells slots Q (F0 m pc ls st0) := by
  have hFc := va_free (wc := wc) hD hS hA is hC
  refine va_calli (va_runV (As := As) (rest := rest) S hM cw ⟨PR_blind, va_recv hK hP hc he, pr_mk (va_P_pick hP hC) hK (hD.sub is hnd hC) hN hZ hS hFc⟩ rfl hn hsz hst (lv_room hW) hdg hcr) hS (fun q _ h => hFc q h) hFc (fun r' u t H1 locs1 ht hvm hw hB hz1 hk1 hS1 => ?_)
  obtain ⟨hP1, -, -⟩ := hB
  rw [ht] at hP1
  obtain ⟨g1, g2⟩ := wmk_P hP hD is ms hm hC hf hk1 hP1
  subst hw
  exact kk H1 locs1 g1 g2 hS1
theorem cV_L {r : Int64} (S : CallFix p m c cc nL s args Ts own) (hM : Met l y wsm rm (PR D ca zz (.ref b :: As) H.size wc) (QL D ca r wn (va_A wc H.size)) 0 0 (va_A wc H.size)) (cw : CallW R s args own C index y bytes maxL ret wsm rm 0 0 n)
    (hK : va_K D vwCl (TY ca) s) (hN : NW s) (hZ : ZS zz A s s.heap) (hA : ∀ q, s.heap.size ≤ q → A q) (hP : va_P D vwCl ws H) (hD : va_D A ws) (hS : va_S A s.heap H locs) (is : List Nat) (ms : List (Option Nat)) (hm : wmOK ms is = true) (hC : is.map (fun i => ws[i]?) = wc.map some) (hnd : va_nd is = true) (hf : wn.map Prod.fst = wc.map Prod.fst)
    (hc : vwCl[ci]? = some (C, T, N)) (q0 : Nat) (he : ws[q0]? = some (b, .inr (ci, fs))) (hn : As.length = n) (hsz : ls.size = nL) (hst : st0 = As.reverse ++ .ref b :: rest) (hW : (rest.map fun v => v.category).sum ≤ 8) (hdg : decode cc pc = .ok (.invokevirtual index, 3)) (hcr : cells ≤ R.cells ∧ slots ≤ R.slots)
    (kk : ∀ (H1 : Heap) (locs1 : List Loc), va_P D vwCl (wmk ws ms wn) H1 → va_D A (wmk ws ms wn) → va_S A s.heap H1 locs1 → W p l e R s m args below meth c H1 locs1 cells slots Q (F0 m (pc + 3) ls (.long r :: rest))) : W p l e R s m args below meth c H locs cells slots Q (F0 m pc ls st0) := by
  have hFc := va_free (wc := wc) hD hS hA is hC
  refine va_calll (va_runV (As := As) (rest := rest) S hM cw ⟨PR_blind, va_recv hK hP hc he, pr_mk (va_P_pick hP hC) hK (hD.sub is hnd hC) hN hZ hS hFc⟩ rfl hn hsz hst (lv_room hW) hdg hcr) hS (fun q _ h => hFc q h) hFc (fun r' u t H1 locs1 ht hvm hw hB hz1 hk1 hS1 => ?_)
  obtain ⟨hP1, -, -⟩ := hB
  rw [ht] at hP1
  obtain ⟨g1, g2⟩ := wmk_P hP hD is ms hm hC hf hk1 hP1
  subst hw
  exact kk H1 locs1 g1 g2 hS1
theorem cV_V (S : CallFix p m c cc nL s args Ts own) (hM : Met l y wsm rm (PR D ca zz (.ref b :: As) H.size wc) (QV D ca wn (va_A wc H.size)) 0 0 (va_A wc H.size)) (cw : CallW R s args own C index y bytes maxL ret wsm rm 0 0 n)
    (hK : va_K D vwCl (TY ca) s) (hN : NW s) (hZ : ZS zz A s s.heap) (hA : ∀ q, s.heap.size ≤ q → A q) (hP : va_P D vwCl ws H) (hD : va_D A ws) (hS : va_S A s.heap H locs) (is : List Nat) (ms : List (Option Nat)) (hm : wmOK ms is = true) (hC : is.map (fun i => ws[i]?) = wc.map some) (hnd : va_nd is = true) (hf : wn.map Prod.fst = wc.map Prod.fst)
    (hc : vwCl[ci]? = some (C, T, N)) (q0 : Nat) (he : ws[q0]? = some (b, .inr (ci, fs))) (hn : As.length = n) (hsz : ls.size = nL) (hst : st0 = As.reverse ++ .ref b :: rest) (hW : (rest.map fun v => v.category).sum ≤ 8) (hdg : decode cc pc = .ok (.invokevirtual index, 3)) (hcr : cells ≤ R.cells ∧ slots ≤ R.slots)
    (kk : ∀ (H1 : Heap) (locs1 : List Loc), va_P D vwCl (wmk ws ms wn) H1 → va_D A (wmk ws ms wn) → va_S A s.heap H1 locs1 → W p l e R s m args below meth c H1 locs1 cells slots Q (F0 m (pc + 3) ls rest)) : W p l e R s m args below meth c H locs cells slots Q (F0 m pc ls st0) := by
  have hFc := va_free (wc := wc) hD hS hA is hC
  refine va_callv (va_runV (As := As) (rest := rest) S hM cw ⟨PR_blind, va_recv hK hP hc he, pr_mk (va_P_pick hP hC) hK (hD.sub is hnd hC) hN hZ hS hFc⟩ rfl hn hsz hst (lv_room hW) hdg hcr) hS (fun q _ h => hFc q h) hFc (fun u t H1 locs1 ht hvm hw hB hz1 hk1 hS1 => ?_)
  obtain ⟨hP1, -, -⟩ := hB
  rw [ht] at hP1
  obtain ⟨g1, g2⟩ := wmk_P hP hD is ms hm hC hf hk1 hP1
  exact kk H1 locs1 g1 g2 hS1
theorem cS_I {r : Int32} (S : CallFix p m c cc nL s args Ts own) (hM : Met l y wsm rm (PR D ca zz As H.size wc) (QI D ca r wn (va_A wc H.size)) 0 0 (va_A wc H.size)) (cw : CallB R s args own index y bytes maxL ret wsm rm 0 0 n ∧ (Cond.static y).before args s = true)
    (hK : va_K D vwCl (TY ca) s) (hN : NW s) (hZ : ZS zz A s s.heap) (hA : ∀ q, s.heap.size ≤ q → A q) (hP : va_P D vwCl ws H) (hD : va_D A ws) (hS : va_S A s.heap H locs) (is : List Nat) (ms : List (Option Nat)) (hm : wmOK ms is = true) (hC : is.map (fun i => ws[i]?) = wc.map some) (hnd : va_nd is = true) (hf : wn.map Prod.fst = wc.map Prod.fst)
    (hn : As.length = n) (hsz : ls.size = nL) (hst : st0 = As.reverse ++ rest) (hW : (rest.map fun v => v.category).sum ≤ 8) (hdg : decode cc pc = .ok (.invokestatic index, 3)) (hcr : cells ≤ R.cells ∧ slots ≤ R.slots)
    (kk : ∀ (H1 : Heap) (locs1 : List Loc), va_P D vwCl (wmk ws ms wn) H1 → va_D A (wmk ws ms wn) → va_S A s.heap H1 locs1 → W p l e R s m args below meth c H1 locs1 cells slots Q (F0 m (pc + 3) ls (.int r :: rest))) : W p l e R s m args below meth c H locs cells slots Q (F0 m pc ls st0) := by
  have hFc := va_free (wc := wc) hD hS hA is hC
  refine va_calli (va_runS (As := As) (rest := rest) S hM cw ⟨PR_blind, pr_mk (va_P_pick hP hC) hK (hD.sub is hnd hC) hN hZ hS hFc⟩ rfl hn hsz hst (lv_room hW) hdg hcr) hS (fun q _ h => hFc q h) hFc (fun r' u t H1 locs1 ht hvm hw hB hz1 hk1 hS1 => ?_)
  obtain ⟨hP1, -, -⟩ := hB
  rw [ht] at hP1
  obtain ⟨g1, g2⟩ := wmk_P hP hD is ms hm hC hf hk1 hP1
  subst hw
  exact kk H1 locs1 g1 g2 hS1
theorem cS_L {r : Int64} (S : CallFix p m c cc nL s args Ts own) (hM : Met l y wsm rm (PR D ca zz As H.size wc) (QL D ca r wn (va_A wc H.size)) 0 0 (va_A wc H.size)) (cw : CallB R s args own index y bytes maxL ret wsm rm 0 0 n ∧ (Cond.static y).before args s = true)
    (hK : va_K D vwCl (TY ca) s) (hN : NW s) (hZ : ZS zz A s s.heap) (hA : ∀ q, s.heap.size ≤ q → A q) (hP : va_P D vwCl ws H) (hD : va_D A ws) (hS : va_S A s.heap H locs) (is : List Nat) (ms : List (Option Nat)) (hm : wmOK ms is = true) (hC : is.map (fun i => ws[i]?) = wc.map some) (hnd : va_nd is = true) (hf : wn.map Prod.fst = wc.map Prod.fst)
    (hn : As.length = n) (hsz : ls.size = nL) (hst : st0 = As.reverse ++ rest) (hW : (rest.map fun v => v.category).sum ≤ 8) (hdg : decode cc pc = .ok (.invokestatic index, 3)) (hcr : cells ≤ R.cells ∧ slots ≤ R.slots)
    (kk : ∀ (H1 : Heap) (locs1 : List Loc), va_P D vwCl (wmk ws ms wn) H1 → va_D A (wmk ws ms wn) → va_S A s.heap H1 locs1 → W p l e R s m args below meth c H1 locs1 cells slots Q (F0 m (pc + 3) ls (.long r :: rest))) : W p l e R s m args below meth c H locs cells slots Q (F0 m pc ls st0) := by
  have hFc := va_free (wc := wc) hD hS hA is hC
  refine va_calll (va_runS (As := As) (rest := rest) S hM cw ⟨PR_blind, pr_mk (va_P_pick hP hC) hK (hD.sub is hnd hC) hN hZ hS hFc⟩ rfl hn hsz hst (lv_room hW) hdg hcr) hS (fun q _ h => hFc q h) hFc (fun r' u t H1 locs1 ht hvm hw hB hz1 hk1 hS1 => ?_)
  obtain ⟨hP1, -, -⟩ := hB
  rw [ht] at hP1
  obtain ⟨g1, g2⟩ := wmk_P hP hD is ms hm hC hf hk1 hP1
  subst hw
  exact kk H1 locs1 g1 g2 hS1
theorem cS_V (S : CallFix p m c cc nL s args Ts own) (hM : Met l y wsm rm (PR D ca zz As H.size wc) (QV D ca wn (va_A wc H.size)) 0 0 (va_A wc H.size)) (cw : CallB R s args own index y bytes maxL ret wsm rm 0 0 n ∧ (Cond.static y).before args s = true)
    (hK : va_K D vwCl (TY ca) s) (hN : NW s) (hZ : ZS zz A s s.heap) (hA : ∀ q, s.heap.size ≤ q → A q) (hP : va_P D vwCl ws H) (hD : va_D A ws) (hS : va_S A s.heap H locs) (is : List Nat) (ms : List (Option Nat)) (hm : wmOK ms is = true) (hC : is.map (fun i => ws[i]?) = wc.map some) (hnd : va_nd is = true) (hf : wn.map Prod.fst = wc.map Prod.fst)
    (hn : As.length = n) (hsz : ls.size = nL) (hst : st0 = As.reverse ++ rest) (hW : (rest.map fun v => v.category).sum ≤ 8) (hdg : decode cc pc = .ok (.invokestatic index, 3)) (hcr : cells ≤ R.cells ∧ slots ≤ R.slots)
    (kk : ∀ (H1 : Heap) (locs1 : List Loc), va_P D vwCl (wmk ws ms wn) H1 → va_D A (wmk ws ms wn) → va_S A s.heap H1 locs1 → W p l e R s m args below meth c H1 locs1 cells slots Q (F0 m (pc + 3) ls rest)) : W p l e R s m args below meth c H locs cells slots Q (F0 m pc ls st0) := by
  have hFc := va_free (wc := wc) hD hS hA is hC
  refine va_callv (va_runS (As := As) (rest := rest) S hM cw ⟨PR_blind, pr_mk (va_P_pick hP hC) hK (hD.sub is hnd hC) hN hZ hS hFc⟩ rfl hn hsz hst (lv_room hW) hdg hcr) hS (fun q _ h => hFc q h) hFc (fun u t H1 locs1 ht hvm hw hB hz1 hk1 hS1 => ?_)
  obtain ⟨hP1, -, -⟩ := hB
  rw [ht] at hP1
  obtain ⟨g1, g2⟩ := wmk_P hP hD is ms hm hC hf hk1 hP1
  exact kk H1 locs1 g1 g2 hS1
end LIBD
end mp_08_libc
section mp_09_libx
section LIBE
def jushr (x y : Int32) : Int32 := (x.toUInt32 >>> (y.toUInt32 &&& Int32.toUInt32 31)).toInt32
def jlushr (x : Int64) (y : Int32) : Int64 := (x.toUInt64 >>> (y.toInt64.toUInt64 &&& Int64.toUInt64 63)).toInt64
def jlshl (x : Int64) (y : Int32) : Int64 := x <<< (y.toInt64 &&& 63)
def jlshr (x : Int64) (y : Int32) : Int64 := x >>> (y.toInt64 &&& 63)
def ji2b (x : Int32) : Int32 := x.toInt8.toInt32
def jmin (x y : Int32) : Int32 := if y < x then y else x
def jmax (x y : Int32) : Int32 := if x < y then y else x
def chknzL {ρ : Type} (i : Int64) (k : Option ρ) : Option ρ := if i = 0 then none else k
theorem chknzL_el {ρ : Type} {i : Int64} {k : Option ρ} {r : ρ} (h : chknzL i k = some r) : ¬ i = 0 ∧ k = some r := by
  unfold chknzL at h
  by_cases q : i = 0
  · rw [if_pos q] at h; cases h
  · rw [if_neg q] at h; exact ⟨q, h⟩
theorem no_el {ρ : Type} {r : ρ} {P : Prop} (h : (none : Option ρ) = some r) : P := by cases h
def chkcp {ρ : Type} (sp dp n : Int32) (n0 n1 : Nat) (k : Option ρ) : Option ρ := if sp < 0 ∨ dp < 0 ∨ n < 0 ∨ n0 < sp.toNatClampNeg + n.toNatClampNeg ∨ n1 < dp.toNatClampNeg + n.toNatClampNeg then none else k
theorem chkcp_el {ρ : Type} {sp dp n : Int32} {n0 n1 : Nat} {k : Option ρ} {r : ρ} (h : chkcp sp dp n n0 n1 k = some r) : (¬ sp < 0 ∧ ¬ dp < 0 ∧ ¬ n < 0 ∧ sp.toNatClampNeg + n.toNatClampNeg ≤ n0 ∧ dp.toNatClampNeg + n.toNatClampNeg ≤ n1) ∧ k = some r := by
  unfold chkcp at h
  by_cases q : sp < 0 ∨ dp < 0 ∨ n < 0 ∨ n0 < sp.toNatClampNeg + n.toNatClampNeg ∨ n1 < dp.toNatClampNeg + n.toNatClampNeg
  · rw [if_pos q] at h; cases h
  · rw [if_neg q] at h
    simp only [not_or] at q
    exact ⟨⟨q.1, q.2.1, q.2.2.1, by omega, by omega⟩, h⟩
end LIBE
section LIBX
variable {p : Program} {l : Launch} {e : Env} {R : Room} {s : State} {m : MethodId} {args : Array Value} {below : List Frame} {meth : Method} {c : Code} {H : Heap} {locs : List Loc} {cells slots : Nat} {Q : State → Prop} {A : Nat → Prop} {D : va_G} {ca : Nat → ClassId} {zz : Nat → Nat} {cc bytes : ByteArray} {pc : Nat} {ls : Array Slot} {rest st0 As : List Value}
variable {nL maxL n index ci N : Nat} {Ts wsm : List Cond} {own C : String} {y : MethodName} {ret : Option FieldType} {rm : Room} {b : Nat} {wc wn ws wx : va_W} {T : u_T} {fs : List Value} {ρ : Type} {r0 : ρ}
theorem xi_eq (hx : p.tables.exec = Jvm.exec) (hb : c.code = cc) {x : Int32} {off : Int} {tgt : Nat} {a b : Option ρ} (hdg : decode cc pc = .ok (.ifCond .eq off, 3)) (ht : (pc : Int) + off = (tgt : Int)) (hf : (if x = 0 then a else b) = some r0) (kt : a = some r0 → W p l e R s m args below meth c H locs cells slots Q (F0 m tgt ls rest)) (kf : b = some r0 → W p l e R s m args below meth c H locs cells slots Q (F0 m (pc + 3) ls rest)) : W p l e R s m args below meth c H locs cells slots Q (F0 m pc ls (.int x :: rest)) := lv_if_eq hx hb hdg ht (fun h => kt (ite_t h hf)) (fun h => kf (ite_f h hf))
theorem xc_eq (hx : p.tables.exec = Jvm.exec) (hb : c.code = cc) {x y : Int32} {off : Int} {tgt : Nat} {a b : Option ρ} (hdg : decode cc pc = .ok (.if_icmp .eq off, 3)) (ht : (pc : Int) + off = (tgt : Int)) (hf : (if x = y then a else b) = some r0) (kt : a = some r0 → W p l e R s m args below meth c H locs cells slots Q (F0 m tgt ls rest)) (kf : b = some r0 → W p l e R s m args below meth c H locs cells slots Q (F0 m (pc + 3) ls rest)) : W p l e R s m args below meth c H locs cells slots Q (F0 m pc ls (.int y :: .int x :: rest)) := lv_icmp_eq hx hb hdg ht (fun h => kt (ite_t h hf)) (fun h => kf (ite_f h hf))
theorem xl_eq (hx : p.tables.exec = Jvm.exec) (hb : c.code = cc) {x y : Int64} {off : Int} {tgt : Nat} {a b : Option ρ} (hd1 : decode cc pc = .ok (.lcmp, 1)) (hdg : decode cc (pc + 1) = .ok (.ifCond .eq off, 3)) (ht : ((pc + 1 : Nat) : Int) + off = (tgt : Int)) (hf : (if x = y then a else b) = some r0) (kt : a = some r0 → W p l e R s m args below meth c H locs cells slots Q (F0 m tgt ls rest)) (kf : b = some r0 → W p l e R s m args below meth c H locs cells slots Q (F0 m (pc + 1 + 3) ls rest)) : W p l e R s m args below meth c H locs cells slots Q (F0 m pc ls (.long y :: .long x :: rest)) := W.lcmp hx hb hd1 (lv_if_eq hx hb hdg ht (fun h => kt (ite_t ((lg_cmp_eq x y).mp h) hf)) (fun h => kf (ite_f (fun q => h ((lg_cmp_eq x y).mpr q)) hf)))
theorem xi_ne (hx : p.tables.exec = Jvm.exec) (hb : c.code = cc) {x : Int32} {off : Int} {tgt : Nat} {a b : Option ρ} (hdg : decode cc pc = .ok (.ifCond .ne off, 3)) (ht : (pc : Int) + off = (tgt : Int)) (hf : (if x = 0 then b else a) = some r0) (kt : a = some r0 → W p l e R s m args below meth c H locs cells slots Q (F0 m tgt ls rest)) (kf : b = some r0 → W p l e R s m args below meth c H locs cells slots Q (F0 m (pc + 3) ls rest)) : W p l e R s m args below meth c H locs cells slots Q (F0 m pc ls (.int x :: rest)) := lv_if_ne hx hb hdg ht (fun h => kt (ite_f h hf)) (fun h => kf (ite_t h hf))
theorem xc_ne (hx : p.tables.exec = Jvm.exec) (hb : c.code = cc) {x y : Int32} {off : Int} {tgt : Nat} {a b : Option ρ} (hdg : decode cc pc = .ok (.if_icmp .ne off, 3)) (ht : (pc : Int) + off = (tgt : Int)) (hf : (if x = y then b else a) = some r0) (kt : a = some r0 → W p l e R s m args below meth c H locs cells slots Q (F0 m tgt ls rest)) (kf : b = some r0 → W p l e R s m args below meth c H locs cells slots Q (F0 m (pc + 3) ls rest)) : W p l e R s m args below meth c H locs cells slots Q (F0 m pc ls (.int y :: .int x :: rest)) := lv_icmp_ne hx hb hdg ht (fun h => kt (ite_f h hf)) (fun h => kf (ite_t h hf))
theorem xl_ne (hx : p.tables.exec = Jvm.exec) (hb : c.code = cc) {x y : Int64} {off : Int} {tgt : Nat} {a b : Option ρ} (hd1 : decode cc pc = .ok (.lcmp, 1)) (hdg : decode cc (pc + 1) = .ok (.ifCond .ne off, 3)) (ht : ((pc + 1 : Nat) : Int) + off = (tgt : Int)) (hf : (if x = y then b else a) = some r0) (kt : a = some r0 → W p l e R s m args below meth c H locs cells slots Q (F0 m tgt ls rest)) (kf : b = some r0 → W p l e R s m args below meth c H locs cells slots Q (F0 m (pc + 1 + 3) ls rest)) : W p l e R s m args below meth c H locs cells slots Q (F0 m pc ls (.long y :: .long x :: rest)) := W.lcmp hx hb hd1 (lv_if_ne hx hb hdg ht (fun h => kt (ite_f (fun q => h ((lg_cmp_eq x y).mpr q)) hf)) (fun h => kf (ite_t ((lg_cmp_eq x y).mp h) hf)))
theorem xi_lt (hx : p.tables.exec = Jvm.exec) (hb : c.code = cc) {x : Int32} {off : Int} {tgt : Nat} {a b : Option ρ} (hdg : decode cc pc = .ok (.ifCond .lt off, 3)) (ht : (pc : Int) + off = (tgt : Int)) (hf : (if x < 0 then a else b) = some r0) (kt : a = some r0 → W p l e R s m args below meth c H locs cells slots Q (F0 m tgt ls rest)) (kf : b = some r0 → W p l e R s m args below meth c H locs cells slots Q (F0 m (pc + 3) ls rest)) : W p l e R s m args below meth c H locs cells slots Q (F0 m pc ls (.int x :: rest)) := lv_if_lt hx hb hdg ht (fun h => kt (ite_t h hf)) (fun h => kf (ite_f h hf))
theorem xc_lt (hx : p.tables.exec = Jvm.exec) (hb : c.code = cc) {x y : Int32} {off : Int} {tgt : Nat} {a b : Option ρ} (hdg : decode cc pc = .ok (.if_icmp .lt off, 3)) (ht : (pc : Int) + off = (tgt : Int)) (hf : (if x < y then a else b) = some r0) (kt : a = some r0 → W p l e R s m args below meth c H locs cells slots Q (F0 m tgt ls rest)) (kf : b = some r0 → W p l e R s m args below meth c H locs cells slots Q (F0 m (pc + 3) ls rest)) : W p l e R s m args below meth c H locs cells slots Q (F0 m pc ls (.int y :: .int x :: rest)) := lv_icmp_lt hx hb hdg ht (fun h => kt (ite_t h hf)) (fun h => kf (ite_f h hf))
theorem xl_lt (hx : p.tables.exec = Jvm.exec) (hb : c.code = cc) {x y : Int64} {off : Int} {tgt : Nat} {a b : Option ρ} (hd1 : decode cc pc = .ok (.lcmp, 1)) (hdg : decode cc (pc + 1) = .ok (.ifCond .lt off, 3)) (ht : ((pc + 1 : Nat) : Int) + off = (tgt : Int)) (hf : (if x < y then a else b) = some r0) (kt : a = some r0 → W p l e R s m args below meth c H locs cells slots Q (F0 m tgt ls rest)) (kf : b = some r0 → W p l e R s m args below meth c H locs cells slots Q (F0 m (pc + 1 + 3) ls rest)) : W p l e R s m args below meth c H locs cells slots Q (F0 m pc ls (.long y :: .long x :: rest)) := W.lcmp hx hb hd1 (lv_if_lt hx hb hdg ht (fun h => kt (ite_t ((lg_cmp_lt x y).mp h) hf)) (fun h => kf (ite_f (fun q => h ((lg_cmp_lt x y).mpr q)) hf)))
theorem xi_ge (hx : p.tables.exec = Jvm.exec) (hb : c.code = cc) {x : Int32} {off : Int} {tgt : Nat} {a b : Option ρ} (hdg : decode cc pc = .ok (.ifCond .ge off, 3)) (ht : (pc : Int) + off = (tgt : Int)) (hf : (if 0 ≤ x then a else b) = some r0) (kt : a = some r0 → W p l e R s m args below meth c H locs cells slots Q (F0 m tgt ls rest)) (kf : b = some r0 → W p l e R s m args below meth c H locs cells slots Q (F0 m (pc + 3) ls rest)) : W p l e R s m args below meth c H locs cells slots Q (F0 m pc ls (.int x :: rest)) := lv_if_ge hx hb hdg ht (fun h => kt (ite_t h hf)) (fun h => kf (ite_f h hf))
theorem xc_ge (hx : p.tables.exec = Jvm.exec) (hb : c.code = cc) {x y : Int32} {off : Int} {tgt : Nat} {a b : Option ρ} (hdg : decode cc pc = .ok (.if_icmp .ge off, 3)) (ht : (pc : Int) + off = (tgt : Int)) (hf : (if y ≤ x then a else b) = some r0) (kt : a = some r0 → W p l e R s m args below meth c H locs cells slots Q (F0 m tgt ls rest)) (kf : b = some r0 → W p l e R s m args below meth c H locs cells slots Q (F0 m (pc + 3) ls rest)) : W p l e R s m args below meth c H locs cells slots Q (F0 m pc ls (.int y :: .int x :: rest)) := lv_icmp_ge hx hb hdg ht (fun h => kt (ite_t h hf)) (fun h => kf (ite_f h hf))
theorem xl_ge (hx : p.tables.exec = Jvm.exec) (hb : c.code = cc) {x y : Int64} {off : Int} {tgt : Nat} {a b : Option ρ} (hd1 : decode cc pc = .ok (.lcmp, 1)) (hdg : decode cc (pc + 1) = .ok (.ifCond .ge off, 3)) (ht : ((pc + 1 : Nat) : Int) + off = (tgt : Int)) (hf : (if y ≤ x then a else b) = some r0) (kt : a = some r0 → W p l e R s m args below meth c H locs cells slots Q (F0 m tgt ls rest)) (kf : b = some r0 → W p l e R s m args below meth c H locs cells slots Q (F0 m (pc + 1 + 3) ls rest)) : W p l e R s m args below meth c H locs cells slots Q (F0 m pc ls (.long y :: .long x :: rest)) := W.lcmp hx hb hd1 (lv_if_ge hx hb hdg ht (fun h => kt (ite_t ((lg_cmp_ge x y).mp h) hf)) (fun h => kf (ite_f (fun q => h ((lg_cmp_ge x y).mpr q)) hf)))
theorem xi_gt (hx : p.tables.exec = Jvm.exec) (hb : c.code = cc) {x : Int32} {off : Int} {tgt : Nat} {a b : Option ρ} (hdg : decode cc pc = .ok (.ifCond .gt off, 3)) (ht : (pc : Int) + off = (tgt : Int)) (hf : (if 0 < x then a else b) = some r0) (kt : a = some r0 → W p l e R s m args below meth c H locs cells slots Q (F0 m tgt ls rest)) (kf : b = some r0 → W p l e R s m args below meth c H locs cells slots Q (F0 m (pc + 3) ls rest)) : W p l e R s m args below meth c H locs cells slots Q (F0 m pc ls (.int x :: rest)) := lv_if_gt hx hb hdg ht (fun h => kt (ite_t h hf)) (fun h => kf (ite_f h hf))
theorem xc_gt (hx : p.tables.exec = Jvm.exec) (hb : c.code = cc) {x y : Int32} {off : Int} {tgt : Nat} {a b : Option ρ} (hdg : decode cc pc = .ok (.if_icmp .gt off, 3)) (ht : (pc : Int) + off = (tgt : Int)) (hf : (if y < x then a else b) = some r0) (kt : a = some r0 → W p l e R s m args below meth c H locs cells slots Q (F0 m tgt ls rest)) (kf : b = some r0 → W p l e R s m args below meth c H locs cells slots Q (F0 m (pc + 3) ls rest)) : W p l e R s m args below meth c H locs cells slots Q (F0 m pc ls (.int y :: .int x :: rest)) := lv_icmp_gt hx hb hdg ht (fun h => kt (ite_t h hf)) (fun h => kf (ite_f h hf))
theorem xl_gt (hx : p.tables.exec = Jvm.exec) (hb : c.code = cc) {x y : Int64} {off : Int} {tgt : Nat} {a b : Option ρ} (hd1 : decode cc pc = .ok (.lcmp, 1)) (hdg : decode cc (pc + 1) = .ok (.ifCond .gt off, 3)) (ht : ((pc + 1 : Nat) : Int) + off = (tgt : Int)) (hf : (if y < x then a else b) = some r0) (kt : a = some r0 → W p l e R s m args below meth c H locs cells slots Q (F0 m tgt ls rest)) (kf : b = some r0 → W p l e R s m args below meth c H locs cells slots Q (F0 m (pc + 1 + 3) ls rest)) : W p l e R s m args below meth c H locs cells slots Q (F0 m pc ls (.long y :: .long x :: rest)) := W.lcmp hx hb hd1 (lv_if_gt hx hb hdg ht (fun h => kt (ite_t ((lg_cmp_gt x y).mp h) hf)) (fun h => kf (ite_f (fun q => h ((lg_cmp_gt x y).mpr q)) hf)))
theorem xi_le (hx : p.tables.exec = Jvm.exec) (hb : c.code = cc) {x : Int32} {off : Int} {tgt : Nat} {a b : Option ρ} (hdg : decode cc pc = .ok (.ifCond .le off, 3)) (ht : (pc : Int) + off = (tgt : Int)) (hf : (if x ≤ 0 then a else b) = some r0) (kt : a = some r0 → W p l e R s m args below meth c H locs cells slots Q (F0 m tgt ls rest)) (kf : b = some r0 → W p l e R s m args below meth c H locs cells slots Q (F0 m (pc + 3) ls rest)) : W p l e R s m args below meth c H locs cells slots Q (F0 m pc ls (.int x :: rest)) := lv_if_le hx hb hdg ht (fun h => kt (ite_t h hf)) (fun h => kf (ite_f h hf))
theorem xc_le (hx : p.tables.exec = Jvm.exec) (hb : c.code = cc) {x y : Int32} {off : Int} {tgt : Nat} {a b : Option ρ} (hdg : decode cc pc = .ok (.if_icmp .le off, 3)) (ht : (pc : Int) + off = (tgt : Int)) (hf : (if x ≤ y then a else b) = some r0) (kt : a = some r0 → W p l e R s m args below meth c H locs cells slots Q (F0 m tgt ls rest)) (kf : b = some r0 → W p l e R s m args below meth c H locs cells slots Q (F0 m (pc + 3) ls rest)) : W p l e R s m args below meth c H locs cells slots Q (F0 m pc ls (.int y :: .int x :: rest)) := lv_icmp_le hx hb hdg ht (fun h => kt (ite_t h hf)) (fun h => kf (ite_f h hf))
theorem xl_le (hx : p.tables.exec = Jvm.exec) (hb : c.code = cc) {x y : Int64} {off : Int} {tgt : Nat} {a b : Option ρ} (hd1 : decode cc pc = .ok (.lcmp, 1)) (hdg : decode cc (pc + 1) = .ok (.ifCond .le off, 3)) (ht : ((pc + 1 : Nat) : Int) + off = (tgt : Int)) (hf : (if x ≤ y then a else b) = some r0) (kt : a = some r0 → W p l e R s m args below meth c H locs cells slots Q (F0 m tgt ls rest)) (kf : b = some r0 → W p l e R s m args below meth c H locs cells slots Q (F0 m (pc + 1 + 3) ls rest)) : W p l e R s m args below meth c H locs cells slots Q (F0 m pc ls (.long y :: .long x :: rest)) := W.lcmp hx hb hd1 (lv_if_le hx hb hdg ht (fun h => kt (ite_t ((lg_cmp_le x y).mp h) hf)) (fun h => kf (ite_f (fun q => h ((lg_cmp_le x y).mpr q)) hf)))
theorem xnm {x : Int32} {k : Int32 → Option ρ} (hf : bnd x k = some r0) (kk : ∀ y : Int32, k y = some r0 → W p l e R s m args below meth c H locs cells slots Q (F0 m pc ls (.int y :: rest))) : W p l e R s m args below meth c H locs cells slots Q (F0 m pc ls (.int x :: rest)) := kk x hf
theorem xnml {x : Int64} {k : Int64 → Option ρ} (hf : bnd x k = some r0) (kk : ∀ y : Int64, k y = some r0 → W p l e R s m args below meth c H locs cells slots Q (F0 m pc ls (.long y :: rest))) : W p l e R s m args below meth c H locs cells slots Q (F0 m pc ls (.long x :: rest)) := kk x hf
theorem xiald (hx : p.tables.exec = Jvm.exec) (hb : c.code = cc) (hK : va_K D vwCl (TY ca) s) (hP : va_P D vwCl ws H) (q0 : Nat) {a n : Nat} {f : Nat → Int32} (ha : ws[q0]? = some (a, .inl (ca 0, n, .inl f))) {i : Int32} {kx : Option ρ} (hf : chkin i n kx = some r0) (hdg : decode cc pc = .ok (.iaload, 1)) (kk : kx = some r0 → W p l e R s m args below meth c H locs cells slots Q (F0 m (pc + 1) ls (.int (f i.toNatClampNeg) :: rest))) : W p l e R s m args below meth c H locs cells slots Q (F0 m pc ls (.int i :: .ref a :: rest)) := va_iald hx hb hK hP q0 0 ha rfl (chkin_el hf).1 hdg (kk (chkin_el hf).2)
theorem xbald (hx : p.tables.exec = Jvm.exec) (hb : c.code = cc) (hK : va_K D vwCl (TY ca) s) (hP : va_P D vwCl ws H) (q0 : Nat) {a n : Nat} {f : Nat → Int32} (ha : ws[q0]? = some (a, .inl (ca 2, n, .inl f))) {i : Int32} {kx : Option ρ} (hf : chkin i n kx = some r0) (hdg : decode cc pc = .ok (.baload, 1)) (kk : kx = some r0 → W p l e R s m args below meth c H locs cells slots Q (F0 m (pc + 1) ls (.int (f i.toNatClampNeg) :: rest))) : W p l e R s m args below meth c H locs cells slots Q (F0 m pc ls (.int i :: .ref a :: rest)) := va_bald hx hb hK hP q0 2 ha rfl (chkin_el hf).1 hdg (kk (chkin_el hf).2)
theorem xzald (hx : p.tables.exec = Jvm.exec) (hb : c.code = cc) (hK : va_K D vwCl (TY ca) s) (hP : va_P D vwCl ws H) (q0 : Nat) {a n : Nat} {f : Nat → Int32} (ha : ws[q0]? = some (a, .inl (ca 3, n, .inl f))) {i : Int32} {kx : Option ρ} (hf : chkin i n kx = some r0) (hdg : decode cc pc = .ok (.baload, 1)) (kk : kx = some r0 → W p l e R s m args below meth c H locs cells slots Q (F0 m (pc + 1) ls (.int (f i.toNatClampNeg) :: rest))) : W p l e R s m args below meth c H locs cells slots Q (F0 m pc ls (.int i :: .ref a :: rest)) := va_zald hx hb hK hP q0 3 ha rfl (chkin_el hf).1 hdg (kk (chkin_el hf).2)
theorem xlald (hx : p.tables.exec = Jvm.exec) (hb : c.code = cc) (hK : va_K D vwCl (TY ca) s) (hP : va_P D vwCl ws H) (q0 : Nat) {a n : Nat} {f : Nat → Int64} (ha : ws[q0]? = some (a, .inl (ca 1, n, .inr (.inl f)))) {i : Int32} {kx : Option ρ} (hf : chkin i n kx = some r0) (hdg : decode cc pc = .ok (.laload, 1)) (kk : kx = some r0 → W p l e R s m args below meth c H locs cells slots Q (F0 m (pc + 1) ls (.long (f i.toNatClampNeg) :: rest))) : W p l e R s m args below meth c H locs cells slots Q (F0 m pc ls (.int i :: .ref a :: rest)) := va_lald hx hb hK hP q0 1 ha rfl (chkin_el hf).1 hdg (kk (chkin_el hf).2)
theorem xiast (hx : p.tables.exec = Jvm.exec) (hb : c.code = cc) (hK : va_K D vwCl (TY ca) s) (hP : va_P D vwCl ws H) (hD : va_D A ws) (hS : va_S A s.heap H locs) (q0 : Nat) {a n : Nat} {f : Nat → Int32} (ha : ws[q0]? = some (a, .inl (ca 0, n, .inl f))) {i : Int32} {x : Int32} {kx : Option ρ} (hf : chkin i n kx = some r0) (hdg : decode cc pc = .ok (.iastore, 1)) (ew : ws.set q0 (a, .inl (ca 0, n, .inl (upd f i.toNatClampNeg x))) = wx) (kk : ∀ (H1 : Heap) (locs1 : List Loc), kx = some r0 → va_P D vwCl wx H1 → va_D A wx → va_S A s.heap H1 locs1 → W p l e R s m args below meth c H1 locs1 cells slots Q (F0 m (pc + 1) ls rest)) : W p l e R s m args below meth c H locs cells slots Q (F0 m pc ls (.int x :: .int i :: .ref a :: rest)) := by
  subst ew
  exact va_iast hx hb hK hP hD hS q0 0 ha rfl (chkin_el hf).1 hdg (fun H1 locs1 h1 h2 h3 => kk H1 locs1 (chkin_el hf).2 h1 h2 h3)
theorem xbast (hx : p.tables.exec = Jvm.exec) (hb : c.code = cc) (hK : va_K D vwCl (TY ca) s) (hP : va_P D vwCl ws H) (hD : va_D A ws) (hS : va_S A s.heap H locs) (q0 : Nat) {a n : Nat} {f : Nat → Int32} (ha : ws[q0]? = some (a, .inl (ca 2, n, .inl f))) {i : Int32} {x : Int32} {kx : Option ρ} (hf : chkin i n kx = some r0) (hdg : decode cc pc = .ok (.bastore, 1)) (ew : ws.set q0 (a, .inl (ca 2, n, .inl (upd f i.toNatClampNeg (vp_nar .byte x)))) = wx) (kk : ∀ (H1 : Heap) (locs1 : List Loc), kx = some r0 → va_P D vwCl wx H1 → va_D A wx → va_S A s.heap H1 locs1 → W p l e R s m args below meth c H1 locs1 cells slots Q (F0 m (pc + 1) ls rest)) : W p l e R s m args below meth c H locs cells slots Q (F0 m pc ls (.int x :: .int i :: .ref a :: rest)) := by
  subst ew
  exact va_bast hx hb hK hP hD hS q0 2 ha rfl (chkin_el hf).1 hdg (fun H1 locs1 h1 h2 h3 => kk H1 locs1 (chkin_el hf).2 h1 h2 h3)
theorem xzast (hx : p.tables.exec = Jvm.exec) (hb : c.code = cc) (hK : va_K D vwCl (TY ca) s) (hP : va_P D vwCl ws H) (hD : va_D A ws) (hS : va_S A s.heap H locs) (q0 : Nat) {a n : Nat} {f : Nat → Int32} (ha : ws[q0]? = some (a, .inl (ca 3, n, .inl f))) {i : Int32} {x : Int32} {kx : Option ρ} (hf : chkin i n kx = some r0) (hdg : decode cc pc = .ok (.bastore, 1)) (ew : ws.set q0 (a, .inl (ca 3, n, .inl (upd f i.toNatClampNeg (vp_nar .boolean x)))) = wx) (kk : ∀ (H1 : Heap) (locs1 : List Loc), kx = some r0 → va_P D vwCl wx H1 → va_D A wx → va_S A s.heap H1 locs1 → W p l e R s m args below meth c H1 locs1 cells slots Q (F0 m (pc + 1) ls rest)) : W p l e R s m args below meth c H locs cells slots Q (F0 m pc ls (.int x :: .int i :: .ref a :: rest)) := by
  subst ew
  exact va_zast hx hb hK hP hD hS q0 3 ha rfl (chkin_el hf).1 hdg (fun H1 locs1 h1 h2 h3 => kk H1 locs1 (chkin_el hf).2 h1 h2 h3)
theorem xlast (hx : p.tables.exec = Jvm.exec) (hb : c.code = cc) (hK : va_K D vwCl (TY ca) s) (hP : va_P D vwCl ws H) (hD : va_D A ws) (hS : va_S A s.heap H locs) (q0 : Nat) {a n : Nat} {f : Nat → Int64} (ha : ws[q0]? = some (a, .inl (ca 1, n, .inr (.inl f)))) {i : Int32} {x : Int64} {kx : Option ρ} (hf : chkin i n kx = some r0) (hdg : decode cc pc = .ok (.lastore, 1)) (ew : ws.set q0 (a, .inl (ca 1, n, .inr (.inl (vp_updL f i.toNatClampNeg x)))) = wx) (kk : ∀ (H1 : Heap) (locs1 : List Loc), kx = some r0 → va_P D vwCl wx H1 → va_D A wx → va_S A s.heap H1 locs1 → W p l e R s m args below meth c H1 locs1 cells slots Q (F0 m (pc + 1) ls rest)) : W p l e R s m args below meth c H locs cells slots Q (F0 m pc ls (.long x :: .int i :: .ref a :: rest)) := by
  subst ew
  exact va_last hx hb hK hP hD hS q0 1 ha rfl (chkin_el hf).1 hdg (fun H1 locs1 h1 h2 h3 => kk H1 locs1 (chkin_el hf).2 h1 h2 h3)
theorem xidiv (hx : p.tables.exec = Jvm.exec) (hb : c.code = cc) {x y : Int32} {kx : Option ρ} (hdg : decode cc pc = .ok (.idiv, 1)) (hf : chknz y kx = some r0) (kk : kx = some r0 → W p l e R s m args below meth c H locs cells slots Q (F0 m (pc + 1) ls (.int (x / y) :: rest))) : W p l e R s m args below meth c H locs cells slots Q (F0 m pc ls (.int y :: .int x :: rest)) := lv_idiv hx hb hdg (chknz_el hf).1 (kk (chknz_el hf).2)
theorem xirem (hx : p.tables.exec = Jvm.exec) (hb : c.code = cc) {x y : Int32} {kx : Option ρ} (hdg : decode cc pc = .ok (.irem, 1)) (hf : chknz y kx = some r0) (kk : kx = some r0 → W p l e R s m args below meth c H locs cells slots Q (F0 m (pc + 1) ls (.int (x - x / y * y) :: rest))) : W p l e R s m args below meth c H locs cells slots Q (F0 m pc ls (.int y :: .int x :: rest)) := lv_irem hx hb hdg (chknz_el hf).1 (kk (chknz_el hf).2)
theorem xldiv (hx : p.tables.exec = Jvm.exec) (hb : c.code = cc) {x y : Int64} {kx : Option ρ} (hdg : decode cc pc = .ok (.ldiv, 1)) (hf : chknzL y kx = some r0) (kk : kx = some r0 → W p l e R s m args below meth c H locs cells slots Q (F0 m (pc + 1) ls (.long (x / y) :: rest))) : W p l e R s m args below meth c H locs cells slots Q (F0 m pc ls (.long y :: .long x :: rest)) := lv_ldiv hx hb hdg (chknzL_el hf).1 (kk (chknzL_el hf).2)
theorem xlrem (hx : p.tables.exec = Jvm.exec) (hb : c.code = cc) {x y : Int64} {kx : Option ρ} (hdg : decode cc pc = .ok (.lrem, 1)) (hf : chknzL y kx = some r0) (kk : kx = some r0 → W p l e R s m args below meth c H locs cells slots Q (F0 m (pc + 1) ls (.long (x - x / y * y) :: rest))) : W p l e R s m args below meth c H locs cells slots Q (F0 m pc ls (.long y :: .long x :: rest)) := lv_lrem hx hb hdg (chknzL_el hf).1 (kk (chknzL_el hf).2)
theorem xtabK (hx : p.tables.exec = Jvm.exec) (hb : c.code = cc) {dflt lo hi : Int} {offs : Array Int} {len : Nat} {x k : Int32} {off : Int} {tgt : Nat} (hdg : decode cc pc = .ok (.tableswitch dflt lo hi offs, len)) (hk : x = k) (h1 : ¬ k.toInt < lo) (h2 : ¬ hi < k.toInt) (ho : offs[(k.toInt - lo).toNat]? = some off) (ht : (pc : Int) + off = (tgt : Int)) (kk : W p l e R s m args below meth c H locs cells slots Q (F0 m tgt ls rest)) : W p l e R s m args below meth c H locs cells slots Q (F0 m pc ls (.int x :: rest)) := by
  subst hk
  exact lv_tableIn hx hb hdg h1 h2 ho ht kk
theorem xtabO (hx : p.tables.exec = Jvm.exec) (hb : c.code = cc) {dflt lo hi : Int} {offs : Array Int} {len : Nat} {x a b : Int32} {tgt : Nat} (hdg : decode cc pc = .ok (.tableswitch dflt lo hi offs, len)) (ha : a.toInt = lo) (hb2 : b.toInt = hi) (h : x < a ∨ b < x) (ht : (pc : Int) + dflt = (tgt : Int)) (kk : W p l e R s m args below meth c H locs cells slots Q (F0 m tgt ls rest)) : W p l e R s m args below meth c H locs cells slots Q (F0 m pc ls (.int x :: rest)) := by
  refine lv_tableOut hx hb hdg ?_ ht kk
  rw [← ha, ← hb2]
  exact h.imp Int32.lt_iff_toInt_lt.mp Int32.lt_iff_toInt_lt.mp
theorem xput {ref : String} (hx : p.tables.exec = Jvm.exec) (hb : c.code = cc) (hts : ∀ w ∈ Ts, w.before args s = true) (hin : ∀ w ∈ u_ws C T N, w ∈ Ts) (ty0 : Nat → FieldType) (hty : ∀ k, k < N → parseFieldDescriptor (T k).2.2.1 = some (ty0 k)) (hnm : ∀ a, a < N → ∀ b, b < N → a ≠ b → (T a).2.1 ≠ (T b).2.1) (hown : s.vm.findClass own = some m.cls) (hK : va_K D vwCl (TY ca) s) (hP : va_P D vwCl ws H) (hD : va_D A ws) (hS0 : va_S A s.heap H locs) (q0 : Nat) {a : Nat} (he : ws[q0]? = some (a, .inr (ci, fs))) (hc : vwCl[ci]? = some (C, T, N)) (k : Nat) (hk : k < N) (hlink : (Cond.fieldLink own index ref (T k).2.1 (T k).2.2.1).before args s = true) (hsame : ∀ x, s.fieldFound? (T k).1 (T k).2.1 (T k).2.2.1 = some x → s.fieldFound? ref (T k).2.1 (T k).2.2.1 = some x) (hfin : (T k).2.2.2 = false) {ty : FieldType} {v : Value} (hd : parseFieldDescriptor (T k).2.2.1 = some ty) (hn : narrow ty v = v) (hfit : fits ty v = true) (hl : k < fs.length)
    (hdg : decode cc pc = .ok (.putfield index, 3)) (ew : ws.set q0 (a, .inr (ci, fs.set k v)) = wx) (kk : ∀ (H1 : Heap) (locs1 : List Loc), va_P D vwCl wx H1 → va_D A wx → va_S A s.heap H1 locs1 → W p l e R s m args below meth c H1 locs1 cells slots Q (F0 m (pc + 3) ls rest)) : W p l e R s m args below meth c H locs cells slots Q (F0 m pc ls (v :: .ref a :: rest)) := by
  subst ew
  exact va_put hx hb hts hin ty0 hty hnm hown hK hP hD hS0 q0 he hc k hk hlink hsame hfin hd hn hfit hl hdg kk
theorem xputN {ref host : String} (hx : p.tables.exec = Jvm.exec) (hb : c.code = cc) (hts : ∀ w ∈ Ts, w.before args s = true) (hin : ∀ w ∈ u_ws C T N, w ∈ Ts) (ty0 : Nat → FieldType) (hty : ∀ k, k < N → parseFieldDescriptor (T k).2.2.1 = some (ty0 k)) (hnm : ∀ a, a < N → ∀ b, b < N → a ≠ b → (T a).2.1 ≠ (T b).2.1) (hown : s.vm.findClass own = some m.cls) (hK : va_K D vwCl (TY ca) s) (hP : va_P D vwCl ws H) (hD : va_D A ws) (hS0 : va_S A s.heap H locs) (q0 : Nat) {a : Nat} (he : ws[q0]? = some (a, .inr (ci, fs))) (hc : vwCl[ci]? = some (C, T, N)) (k : Nat) (hk : k < N) (hlink : (Cond.fieldLinkNest own index ref (T k).2.1 (T k).2.2.1 host).before args s = true) (hsame : ∀ x, s.fieldFound? (T k).1 (T k).2.1 (T k).2.2.1 = some x → s.fieldFound? ref (T k).2.1 (T k).2.2.1 = some x) (hfin : (T k).2.2.2 = false) {ty : FieldType} {v : Value} (hd : parseFieldDescriptor (T k).2.2.1 = some ty) (hn : narrow ty v = v) (hfit : fits ty v = true) (hl : k < fs.length)
    (hdg : decode cc pc = .ok (.putfield index, 3)) (ew : ws.set q0 (a, .inr (ci, fs.set k v)) = wx) (kk : ∀ (H1 : Heap) (locs1 : List Loc), va_P D vwCl wx H1 → va_D A wx → va_S A s.heap H1 locs1 → W p l e R s m args below meth c H1 locs1 cells slots Q (F0 m (pc + 3) ls rest)) : W p l e R s m args below meth c H locs cells slots Q (F0 m pc ls (v :: .ref a :: rest)) := by
  subst ew
  exact va_putN hx hb hts hin ty0 hty hnm hown hK hP hD hS0 q0 he hc k hk hlink hsame hfin hd hn hfit hl hdg kk
theorem xV_I {r : Int32} (S : CallFix p m c cc nL s args Ts own) (hM : Met l y wsm rm (PR D ca zz (.ref b :: As) H.size wc) (QI D ca r wn (va_A wc H.size)) 0 0 (va_A wc H.size)) (cw : CallW R s args own C index y bytes maxL ret wsm rm 0 0 n)
    (hK : va_K D vwCl (TY ca) s) (hN : NW s) (hZ : ZS zz A s s.heap) (hA : ∀ q, s.heap.size ≤ q → A q) (hP : va_P D vwCl ws H) (hD : va_D A ws) (hS : va_S A s.heap H locs) (is : List Nat) (ms : List (Option Nat)) (hm : wmOK ms is = true) (hC : is.map (fun i => ws[i]?) = wc.map some) (hnd : va_nd is = true) (hf : wn.map Prod.fst = wc.map Prod.fst)
    (hc : vwCl[ci]? = some (C, T, N)) (q0 : Nat) (he : ws[q0]? = some (b, .inr (ci, fs))) (hn : As.length = n) (hsz : ls.size = nL) (hst : st0 = As.reverse ++ .ref b :: rest) (hW : (rest.map fun v => v.category).sum ≤ 8) (hdg : decode cc pc = .ok (.invokevirtual index, 3)) (hcr : cells ≤ R.cells ∧ slots ≤ R.slots) (ew : wmk ws ms wn = wx)
    (kk : ∀ (H1 : Heap) (locs1 : List Loc), va_P D vwCl wx H1 → va_D A wx → va_S A s.heap H1 locs1 → W p l e R s m args below meth c H1 locs1 cells slots Q (F0 m (pc + 3) ls (.int r :: rest))) : W p l e R s m args below meth c H locs cells slots Q (F0 m pc ls st0) := by
  subst ew
  exact cV_I S hM cw hK hN hZ hA hP hD hS is ms hm hC hnd hf hc q0 he hn hsz hst hW hdg hcr kk
theorem xV_L {r : Int64} (S : CallFix p m c cc nL s args Ts own) (hM : Met l y wsm rm (PR D ca zz (.ref b :: As) H.size wc) (QL D ca r wn (va_A wc H.size)) 0 0 (va_A wc H.size)) (cw : CallW R s args own C index y bytes maxL ret wsm rm 0 0 n)
    (hK : va_K D vwCl (TY ca) s) (hN : NW s) (hZ : ZS zz A s s.heap) (hA : ∀ q, s.heap.size ≤ q → A q) (hP : va_P D vwCl ws H) (hD : va_D A ws) (hS : va_S A s.heap H locs) (is : List Nat) (ms : List (Option Nat)) (hm : wmOK ms is = true) (hC : is.map (fun i => ws[i]?) = wc.map some) (hnd : va_nd is = true) (hf : wn.map Prod.fst = wc.map Prod.fst)
    (hc : vwCl[ci]? = some (C, T, N)) (q0 : Nat) (he : ws[q0]? = some (b, .inr (ci, fs))) (hn : As.length = n) (hsz : ls.size = nL) (hst : st0 = As.reverse ++ .ref b :: rest) (hW : (rest.map fun v => v.category).sum ≤ 8) (hdg : decode cc pc = .ok (.invokevirtual index, 3)) (hcr : cells ≤ R.cells ∧ slots ≤ R.slots) (ew : wmk ws ms wn = wx)
    (kk : ∀ (H1 : Heap) (locs1 : List Loc), va_P D vwCl wx H1 → va_D A wx → va_S A s.heap H1 locs1 → W p l e R s m args below meth c H1 locs1 cells slots Q (F0 m (pc + 3) ls (.long r :: rest))) : W p l e R s m args below meth c H locs cells slots Q (F0 m pc ls st0) := by
  subst ew
  exact cV_L S hM cw hK hN hZ hA hP hD hS is ms hm hC hnd hf hc q0 he hn hsz hst hW hdg hcr kk
theorem xV_V (S : CallFix p m c cc nL s args Ts own) (hM : Met l y wsm rm (PR D ca zz (.ref b :: As) H.size wc) (QV D ca wn (va_A wc H.size)) 0 0 (va_A wc H.size)) (cw : CallW R s args own C index y bytes maxL ret wsm rm 0 0 n)
    (hK : va_K D vwCl (TY ca) s) (hN : NW s) (hZ : ZS zz A s s.heap) (hA : ∀ q, s.heap.size ≤ q → A q) (hP : va_P D vwCl ws H) (hD : va_D A ws) (hS : va_S A s.heap H locs) (is : List Nat) (ms : List (Option Nat)) (hm : wmOK ms is = true) (hC : is.map (fun i => ws[i]?) = wc.map some) (hnd : va_nd is = true) (hf : wn.map Prod.fst = wc.map Prod.fst)
    (hc : vwCl[ci]? = some (C, T, N)) (q0 : Nat) (he : ws[q0]? = some (b, .inr (ci, fs))) (hn : As.length = n) (hsz : ls.size = nL) (hst : st0 = As.reverse ++ .ref b :: rest) (hW : (rest.map fun v => v.category).sum ≤ 8) (hdg : decode cc pc = .ok (.invokevirtual index, 3)) (hcr : cells ≤ R.cells ∧ slots ≤ R.slots) (ew : wmk ws ms wn = wx)
    (kk : ∀ (H1 : Heap) (locs1 : List Loc), va_P D vwCl wx H1 → va_D A wx → va_S A s.heap H1 locs1 → W p l e R s m args below meth c H1 locs1 cells slots Q (F0 m (pc + 3) ls (rest))) : W p l e R s m args below meth c H locs cells slots Q (F0 m pc ls st0) := by
  subst ew
  exact cV_V S hM cw hK hN hZ hA hP hD hS is ms hm hC hnd hf hc q0 he hn hsz hst hW hdg hcr kk
theorem xS_I {r : Int32} (S : CallFix p m c cc nL s args Ts own) (hM : Met l y wsm rm (PR D ca zz As H.size wc) (QI D ca r wn (va_A wc H.size)) 0 0 (va_A wc H.size)) (cw : CallB R s args own index y bytes maxL ret wsm rm 0 0 n ∧ (Cond.static y).before args s = true)
    (hK : va_K D vwCl (TY ca) s) (hN : NW s) (hZ : ZS zz A s s.heap) (hA : ∀ q, s.heap.size ≤ q → A q) (hP : va_P D vwCl ws H) (hD : va_D A ws) (hS : va_S A s.heap H locs) (is : List Nat) (ms : List (Option Nat)) (hm : wmOK ms is = true) (hC : is.map (fun i => ws[i]?) = wc.map some) (hnd : va_nd is = true) (hf : wn.map Prod.fst = wc.map Prod.fst)
    (hn : As.length = n) (hsz : ls.size = nL) (hst : st0 = As.reverse ++ rest) (hW : (rest.map fun v => v.category).sum ≤ 8) (hdg : decode cc pc = .ok (.invokestatic index, 3)) (hcr : cells ≤ R.cells ∧ slots ≤ R.slots) (ew : wmk ws ms wn = wx)
    (kk : ∀ (H1 : Heap) (locs1 : List Loc), va_P D vwCl wx H1 → va_D A wx → va_S A s.heap H1 locs1 → W p l e R s m args below meth c H1 locs1 cells slots Q (F0 m (pc + 3) ls (.int r :: rest))) : W p l e R s m args below meth c H locs cells slots Q (F0 m pc ls st0) := by
  subst ew
  exact cS_I S hM cw hK hN hZ hA hP hD hS is ms hm hC hnd hf hn hsz hst hW hdg hcr kk
theorem xS_L {r : Int64} (S : CallFix p m c cc nL s args Ts own) (hM : Met l y wsm rm (PR D ca zz As H.size wc) (QL D ca r wn (va_A wc H.size)) 0 0 (va_A wc H.size)) (cw : CallB R s args own index y bytes maxL ret wsm rm 0 0 n ∧ (Cond.static y).before args s = true)
    (hK : va_K D vwCl (TY ca) s) (hN : NW s) (hZ : ZS zz A s s.heap) (hA : ∀ q, s.heap.size ≤ q → A q) (hP : va_P D vwCl ws H) (hD : va_D A ws) (hS : va_S A s.heap H locs) (is : List Nat) (ms : List (Option Nat)) (hm : wmOK ms is = true) (hC : is.map (fun i => ws[i]?) = wc.map some) (hnd : va_nd is = true) (hf : wn.map Prod.fst = wc.map Prod.fst)
    (hn : As.length = n) (hsz : ls.size = nL) (hst : st0 = As.reverse ++ rest) (hW : (rest.map fun v => v.category).sum ≤ 8) (hdg : decode cc pc = .ok (.invokestatic index, 3)) (hcr : cells ≤ R.cells ∧ slots ≤ R.slots) (ew : wmk ws ms wn = wx)
    (kk : ∀ (H1 : Heap) (locs1 : List Loc), va_P D vwCl wx H1 → va_D A wx → va_S A s.heap H1 locs1 → W p l e R s m args below meth c H1 locs1 cells slots Q (F0 m (pc + 3) ls (.long r :: rest))) : W p l e R s m args below meth c H locs cells slots Q (F0 m pc ls st0) := by
  subst ew
  exact cS_L S hM cw hK hN hZ hA hP hD hS is ms hm hC hnd hf hn hsz hst hW hdg hcr kk
theorem xS_V (S : CallFix p m c cc nL s args Ts own) (hM : Met l y wsm rm (PR D ca zz As H.size wc) (QV D ca wn (va_A wc H.size)) 0 0 (va_A wc H.size)) (cw : CallB R s args own index y bytes maxL ret wsm rm 0 0 n ∧ (Cond.static y).before args s = true)
    (hK : va_K D vwCl (TY ca) s) (hN : NW s) (hZ : ZS zz A s s.heap) (hA : ∀ q, s.heap.size ≤ q → A q) (hP : va_P D vwCl ws H) (hD : va_D A ws) (hS : va_S A s.heap H locs) (is : List Nat) (ms : List (Option Nat)) (hm : wmOK ms is = true) (hC : is.map (fun i => ws[i]?) = wc.map some) (hnd : va_nd is = true) (hf : wn.map Prod.fst = wc.map Prod.fst)
    (hn : As.length = n) (hsz : ls.size = nL) (hst : st0 = As.reverse ++ rest) (hW : (rest.map fun v => v.category).sum ≤ 8) (hdg : decode cc pc = .ok (.invokestatic index, 3)) (hcr : cells ≤ R.cells ∧ slots ≤ R.slots) (ew : wmk ws ms wn = wx)
    (kk : ∀ (H1 : Heap) (locs1 : List Loc), va_P D vwCl wx H1 → va_D A wx → va_S A s.heap H1 locs1 → W p l e R s m args below meth c H1 locs1 cells slots Q (F0 m (pc + 3) ls (rest))) : W p l e R s m args below meth c H locs cells slots Q (F0 m pc ls st0) := by
  subst ew
  exact cS_V S hM cw hK hN hZ hA hP hD hS is ms hm hC hnd hf hn hsz hst hW hdg hcr kk
theorem xcopyi (hx : p.tables.exec = Jvm.exec) (hb : c.code = cc) (hml : c.maxLocals = ls.size) (hown : s.vm.findClass own = some m.cls) (hlink : (Cond.methodLink own index arraycopyName).before args s = true) (hnat : (Cond.native arraycopyName).before args s = true) (hstat : (Cond.static arraycopyName).before args s = true) (hini : (Cond.initialized "java/lang/System").before args s = true) (hK : va_K D vwCl (TY ca) s) (hP : va_P D vwCl ws H) (hD : va_D A ws) (hS : va_S A s.heap H locs) (q0 q1 : Nat) {a a0 n0 n1 : Nat} {f g : Nat → Int32} (ha0 : ws[q0]? = some (a0, .inl (ca 0, n0, .inl f))) (ha1 : ws[q1]? = some (a, .inl (ca 0, n1, .inl g))) {sp dp n : Int32} {kx : Option ρ} (hf : chkcp sp dp n n0 n1 kx = some r0)
    (hframes : 1 ≤ R.frames) (hlocals : (rest.map fun v => v.category).sum + (nativeFrameWords "java/lang/System" "arraycopy" 5 + 11) ≤ R.locals) (hdg : decode cc pc = .ok (.invokestatic index, 3)) (ew : ws.set q1 (a, .inl (ca 0, n1, .inl (va_cpy f g sp.toNatClampNeg dp.toNatClampNeg n.toNatClampNeg))) = wx)
    (kk : ∀ (H1 : Heap) (locs1 : List Loc), kx = some r0 → va_P D vwCl wx H1 → va_D A wx → va_S A s.heap H1 locs1 → W p l e R s m args below meth c H1 locs1 cells slots Q (F0 m (pc + 3) ls rest)) : W p l e R s m args below meth c H locs cells slots Q (F0 m pc ls (.int n :: .int dp :: .ref a :: .int sp :: .ref a0 :: rest)) := by
  subst ew
  obtain ⟨⟨h1, h2, h3, h4, h5⟩, hf⟩ := chkcp_el hf
  exact va_copyi hx hb hml hown hlink hnat hstat hini hK hP hD hS q0 q1 0 0 ha0 ha1 rfl rfl rfl h1 h2 h3 h4 h5 (fun _ _ => rfl) hframes hlocals hdg (fun H1 locs1 g1 g2 g3 => kk H1 locs1 hf g1 g2 g3)
theorem xtild (hx : p.tables.exec = Jvm.exec) (hb : c.code = cc) {t : Nat} {f : Nat → Int32} (hT : va_T .int t 9 (fun j => .int (f j)) A s s.heap) (hS : va_S A s.heap H locs) {i : Int32} {kx : Option ρ} (hf : chkin i 9 kx = some r0) (hdg : decode cc pc = .ok (.iaload, 1)) (kk : kx = some r0 → W p l e R s m args below meth c H locs cells slots Q (F0 m (pc + 1) ls (.int (f i.toNatClampNeg) :: rest))) : W p l e R s m args below meth c H locs cells slots Q (F0 m pc ls (.int i :: .ref t :: rest)) := va_ti hx hb hT hS (chkin_el hf).1 rfl hdg (kk (chkin_el hf).2)
theorem xcopyt (hx : p.tables.exec = Jvm.exec) (hb : c.code = cc) (hml : c.maxLocals = ls.size) (hown : s.vm.findClass own = some m.cls) (hlink : (Cond.methodLink own index arraycopyName).before args s = true) (hnat : (Cond.native arraycopyName).before args s = true) (hstat : (Cond.static arraycopyName).before args s = true) (hini : (Cond.initialized "java/lang/System").before args s = true) (hK : va_K D vwCl (TY ca) s) (hP : va_P D vwCl ws H) (hD : va_D A ws) (hS : va_S A s.heap H locs) {b0 : Nat} {f : Nat → Int32} (hX : va_T .int b0 9 (fun j => .int (f j)) A s s.heap) (q1 : Nat) {a n1 : Nat} {g : Nat → Int32} (ha1 : ws[q1]? = some (a, .inl (ca 0, n1, .inl g))) {sp dp n : Int32} {kx : Option ρ} (hf : chkcp sp dp n 9 n1 kx = some r0)
    (hframes : 1 ≤ R.frames) (hlocals : (rest.map fun v => v.category).sum + (nativeFrameWords "java/lang/System" "arraycopy" 5 + 11) ≤ R.locals) (hdg : decode cc pc = .ok (.invokestatic index, 3)) (ew : ws.set q1 (a, .inl (ca 0, n1, .inl (va_cpy f g sp.toNatClampNeg dp.toNatClampNeg n.toNatClampNeg))) = wx)
    (kk : ∀ (H1 : Heap) (locs1 : List Loc), kx = some r0 → va_P D vwCl wx H1 → va_D A wx → va_S A s.heap H1 locs1 → W p l e R s m args below meth c H1 locs1 cells slots Q (F0 m (pc + 3) ls rest)) : W p l e R s m args below meth c H locs cells slots Q (F0 m pc ls (.int n :: .int dp :: .ref a :: .int sp :: .ref b0 :: rest)) := by
  subst ew
  obtain ⟨⟨h1, h2, h3, h4, h5⟩, hf⟩ := chkcp_el hf
  have nn : ∀ z : Int32, ¬ z < 0 → z.toInt = (z.toNatClampNeg : Int) := by
    intro z hz
    have hz0 : (0 : Int) ≤ z.toInt := by
      have := Int32.not_lt.mp hz
      simpa using Int32.le_iff_toInt_le.mp this
    show z.toInt = ((z.toInt.toNat : Nat) : Int)
    omega
  intro T hT X
  obtain ⟨scr, hs1, hs2, hs3, hs4, -, hs5, hs7⟩ := hX
  have hc0 : H[b0]? = some scr := by rw [hS.2.1 b0 (Array.getElem?_eq_some_iff.mp hs1).1 hs7]; exact hs1
  have hc1 : H[a]? = some (vp_cell (ca 0) (n1, .inl g)) := hP q1 _ ha1
  obtain ⟨hs6, k0, hk0, cm0, hkk0⟩ := hs2
  obtain ⟨-, k1, hk1, cm1, hkk1⟩ := (hK.2 0 _ rfl).1 n1 (fun j => .int (g j))
  obtain ⟨vm', X', step⟩ := X.arraycopy hx hown hlink hnat hstat hini (src := b0) (dst := a) (cs := scr) (cd := vp_cell (ca 0) (n1, .inl g)) (srcPos := sp) (destPos := dp) (n := n) (by rw [hT]; exact hc0) (by rw [hT]; exact hc1)
    hs6 (fun _ h => by cases h) hs3 (fun h => by cases h) hk0 hk1 hkk0 hkk1 (by simp [refKind]) h1 h2 h3
    (by rw [nn sp h1, nn n h3]; omega)
    (by rw [nn dp h2, nn n h3]; show ¬ _ > ((arrV (ca 0) n1 (fun j => .int (g j))).slots.size : Int); rw [arrV_size]; omega)
    (fun vm₁ _ i hi => by
      have e : scr.slots.getD (sp.toNatClampNeg + i) .null = .int (f (sp.toNatClampNeg + i)) := by
        rw [Array.getD_eq_getD_getElem?, hs5 _ (by omega)]
        rfl
      refine ⟨?_, ?_⟩
      · rw [e]; rfl
      · rw [e]; exact trivial)
    (g := F0 m pc ls (.int n :: .int dp :: .ref a :: .int sp :: .ref b0 :: rest)) rfl (by rw [hml]) (rest := rest) rfl (by rw [hb]; exact hdg) hframes (by show 2 * 0 + _ + _ ≤ _; omega)
  have e1 : copied scr (vp_cell (ca 0) (n1, .inl g)) sp dp n = vp_cell (ca 0) (n1, .inl (va_cpy f g sp.toNatClampNeg dp.toNatClampNeg n.toNatClampNeg)) := va_copiedX (fun z => .int z) scr (ca 0) f g hs5 h4
  rw [e1] at X' step
  have hl : a < H.size := (Array.getElem?_eq_some_iff.mp hc1).1
  have hheap : ((T.setVm vm').setCell a (vp_cell (ca 0) (n1, .inl (va_cpy f g sp.toNatClampNeg dp.toNatClampNeg n.toNatClampNeg)))).heap = H.setIfInBounds a (vp_cell (ca 0) (n1, .inl (va_cpy f g sp.toNatClampNeg dp.toNatClampNeg n.toNatClampNeg))) := by rw [← hT]; rfl
  have oq : ∀ q : Nat, q ≠ a → (H.setIfInBounds a (vp_cell (ca 0) (n1, .inl (va_cpy f g sp.toNatClampNeg dp.toNatClampNeg n.toNatClampNeg))))[q]? = H[q]? := fun q hq => by simp [Array.getElem?_setIfInBounds, Ne.symm hq]
  obtain ⟨t, a1, b1⟩ := kk _ _ hf (hP.set hD ha1 (show (H.setIfInBounds a _)[a]? = some _ by simp [Array.getElem?_setIfInBounds, hl]) oq) (hD.set ha1) ⟨by simp; exact hS.1, fun q g1 g2 => by
      rw [oq q (fun e => g2 (by rw [e]; exact hD.2 q1 _ ha1))]
      exact hS.2.1 q g1 g2, fun q hq => by
      rcases List.mem_append.mp hq with h | h
      · exact hS.2.2 q h
      · obtain ⟨z, -, hz⟩ := List.mem_map.mp h
        rw [← hz]
        exact hD.2 q1 _ ha1⟩ _ hheap X'
  exact ⟨t, step t a1, b1⟩
end LIBX
end mp_09_libx
section mp_09_liby
/-- a constructor's end: the cells at new addresses -/
abbrev QN (D : va_G) (ca : Nat → ClassId) (wN : (Nat → Nat) → va_W) (A : Nat → Prop) : Array Value → State → Outcome → State → Prop := va_Qv (fun (_ : Nat → Nat) => True) (fun q t => va_P D vwCl (wN q) t.heap ∧ va_K D vwCl (TY ca) t ∧ va_D A (wN q)) A
section LIBN
variable {p : Program} {l : Launch} {e : Env} {R : Room} {s : State} {m : MethodId} {args : Array Value} {below : List Frame} {meth : Method} {c : Code} {H : Heap} {locs : List Loc} {cells slots : Nat} {Q : State → Prop} {A : Nat → Prop} {D : va_G} {ca : Nat → ClassId} {zz : Nat → Nat} {cc bytes : ByteArray} {pc : Nat} {ls : Array Slot} {rest st0 As : List Value}
variable {nL maxL n index ci N : Nat} {Ts wsm : List Cond} {own C : String} {y : MethodName} {ret : Option FieldType} {rm : Room} {b : Nat} {wc wn ws wx : va_W} {T : u_T} {fs : List Value} {ρ : Type} {r0 : ρ}
theorem rt_N {wN : (Nat → Nat) → va_W} {mc ms : Nat} (q : Nat → Nat) (hx : p.tables.exec = Jvm.exec) (hb : c.code = cc) (hr : meth.sig.returnType = none) (hlocks : meth.locks = false) (hK : va_K D vwCl (TY ca) s) (hP : va_P D vwCl ws H) (hD : va_D A ws) (hS : va_S A s.heap H locs) (hQ : Q = MQ below (QN D ca wN A) args s mc ms A) (ew : ws = wN q) (hc : cells ≤ mc) (hs : slots ≤ ms) (hdg : decode cc pc = .ok (.return_, 1)) : W p l e R s m args below meth c H locs cells slots Q (F0 m pc ls []) := by
  subst ew; subst hQ
  refine W.widen (k := mc) (n := ms) hc hs ?_
  exact W.vret hx hb hr (fun t ht hW => ⟨⟨q, rfl, trivial, by rw [ht]; exact hP, va_K.moved hW.alike hK, hD⟩, hS.F ht⟩) hS.2.2 hdg
theorem xnewa (t0 : Nat) (hx : p.tables.exec = Jvm.exec) (hb : c.code = cc) {atype : ArrayType} (harr : (Cond.arrayClass (newarray.typeOf atype)).before args s = true) {ty : FieldType} (hty : newarray.typeOf atype = ty) (hK : va_K D vwCl (TY ca) s) (hP : va_P D vwCl ws H) (hD : va_D A ws) (hS : va_S A s.heap H locs) (hA : ∀ q, s.heap.size ≤ q → A q)
    {n : Int32} {N' : Nat} {a0 : vp_A} (ha : ∀ cA : ClassId, vp_cell cA a0 = arrV cA N' (fun _ => defaultValue ty)) (hn : ¬ n < 0) (hN : n.toNatClampNeg = N') (hbytes : N' * componentBytes ty ≤ 536870912) (ht : (TY ca)[t0]? = some (ca t0, ty)) (hra : ∀ cA : ClassId, va_RA s cA ty → s.vm.findClass ("[" ++ ty.toString) = some cA) (hcells : cells + 1 ≤ R.cells) (hslots : slots + N' ≤ R.slots) (hdg : decode cc pc = .ok (.newarray atype, 2))
    (kk : ∀ (q : Nat) (H1 : Heap), va_P D vwCl (ws ++ [(q, .inl (ca t0, a0))]) H1 → va_D A (ws ++ [(q, .inl (ca t0, a0))]) → va_S A s.heap H1 locs →
      W p l e R s m args below meth c H1 locs (cells + 1) (slots + N') Q (F0 m (pc + 2) ls (.ref q :: rest))) : W p l e R s m args below meth c H locs cells slots Q (F0 m pc ls (.int n :: rest)) := by
  refine va_newa hx hb harr hty hK hP hD hS hA ha hn hN hbytes hcells hslots hdg (fun q cA H1 g1 g2 g3 g4 => ?_)
  have e1 := hra _ (hK.2 t0 _ ht).2
  have e2 := hra _ (g1.2 (TY ca).length (cA, ty) (by simp)).2
  rw [e1] at e2
  cases e2
  exact kk q H1 g2 g3 g4
theorem xnewq (hx : p.tables.exec = Jvm.exec) (hb : c.code = cc) (hown : s.vm.findClass own = some m.cls) (hclink : (Cond.classLink own index "NoiseWatch$Watch").before args s = true) (hover : va_AO "NoiseWatch$Watch" s) (hK : va_K D vwCl (TY ca) s) (hP : va_P D vwCl ws H) (hD : va_D A ws) (hS : va_S A s.heap H locs) (hA : ∀ q, s.heap.size ≤ q → A q)
    {n : Int32} {N' : Nat} (hn : ¬ n < 0) (hN : n.toNatClampNeg = N') (hbytes : N' * 4 ≤ 536870912) (hcells : cells + 1 ≤ R.cells) (hslots : slots + N' ≤ R.slots) (hdg : decode cc pc = .ok (.anewarray index, 3))
    (kk : ∀ (q : Nat) (H1 : Heap), va_P D vwCl (ws ++ [(q, .inl (ca 4, N', .inr (.inr (.inr (.inr (fun _ => none))))))]) H1 → va_D A (ws ++ [(q, .inl (ca 4, N', .inr (.inr (.inr (.inr (fun _ => none))))))]) → va_S A s.heap H1 locs →
      W p l e R s m args below meth c H1 locs (cells + 1) (slots + N') Q (F0 m (pc + 3) ls (.ref q :: rest))) : W p l e R s m args below meth c H locs cells slots Q (F0 m pc ls (.int n :: rest)) := by
  refine va_newq hx hb hown hclink hover hK hP hD hS hA hn hN hbytes hcells hslots hdg (fun q cA H1 g1 g2 g3 g4 => ?_)
  obtain ⟨kA, comp, -, -, -, e1⟩ := (hK.2 4 _ rfl).2
  obtain ⟨kA2, comp2, -, -, -, e2⟩ := (g1.2 (TY ca).length (cA, .object "NoiseWatch$Watch") (by simp)).2
  rw [e1] at e2
  cases e2
  exact kk q H1 g2 g3 g4
theorem xputF {ref : String} (hx : p.tables.exec = Jvm.exec) (hb : c.code = cc) (hts : ∀ w ∈ Ts, w.before args s = true) (hin : ∀ w ∈ u_ws C T N, w ∈ Ts) (ty0 : Nat → FieldType) (hty : ∀ k, k < N → parseFieldDescriptor (T k).2.2.1 = some (ty0 k)) (hnm : ∀ a, a < N → ∀ b, b < N → a ≠ b → (T a).2.1 ≠ (T b).2.1) (hown : s.vm.findClass own = some m.cls) (hK : va_K D vwCl (TY ca) s) (hP : va_P D vwCl ws H) (hD : va_D A ws) (hS0 : va_S A s.heap H locs) (q0 : Nat) {a : Nat} (he : ws[q0]? = some (a, .inr (ci, fs))) (hc : vwCl[ci]? = some (C, T, N)) (k : Nat) (hk : k < N) (hlink : (Cond.fieldLink own index ref (T k).2.1 (T k).2.2.1).before args s = true) (hsame : ∀ x, s.fieldFound? (T k).1 (T k).2.1 (T k).2.2.1 = some x → s.fieldFound? ref (T k).2.1 (T k).2.2.1 = some x) (hfin : (T k).2.2.2 = true) (hin2 : meth.name = "<init>") (hdecl : (T k).1 = own) {ty : FieldType} {v : Value} (hd : parseFieldDescriptor (T k).2.2.1 = some ty) (hn : narrow ty v = v) (hfit : fits ty v = true) (hl : k < fs.length)
    (hdg : decode cc pc = .ok (.putfield index, 3)) (ew : ws.set q0 (a, .inr (ci, fs.set k v)) = wx) (kk : ∀ (H1 : Heap) (locs1 : List Loc), va_P D vwCl wx H1 → va_D A wx → va_S A s.heap H1 locs1 → W p l e R s m args below meth c H1 locs1 cells slots Q (F0 m (pc + 3) ls rest)) : W p l e R s m args below meth c H locs cells slots Q (F0 m pc ls (v :: .ref a :: rest)) := by
  subst ew
  exact va_putF hx hb hts hin ty0 hty hnm hown hK hP hD hS0 q0 he hc k hk hlink hsame hfin hin2 hdecl hd hn hfit hl hdg kk
theorem xIn {wN : (Nat → Nat) → va_W} {wr : va_W} {mc ms : Nat} (S : CallFix p m c cc nL s args Ts own) (hM : Met l y wsm rm (PR D ca zz [.ref b] H.size [(b, .inr (ci, fs))]) (QN D ca wN (va_A [(b, .inr (ci, fs))] H.size)) mc ms (va_A [(b, .inr (ci, fs))] H.size)) (cw : CallB R s args own index y bytes maxL none wsm rm mc ms 0 ∧ y.name = "<init>" ∧ (Cond.instanceMethod y).before args s = true)
    (hK : va_K D vwCl (TY ca) s) (hP : va_P D vwCl ws H) (hN : NW s) (hZ : ZS zz A s s.heap) (hA : ∀ q, s.heap.size ≤ q → A q) (hD : va_D A ws) (hS : va_S A s.heap H locs) (j : Nat) (hj : ws[j]? = some (b, .inr (ci, fs))) (is : List Nat) (hR : is.map (fun i => ws[i]?) = wr.map some) (hnd : va_nd is = true) (hdis : ∀ i ∈ is, i ∉ [j])
    (hsz : ls.size = nL) (hst : st0 = .ref b :: rest) (hW : (rest.map fun v => v.category).sum ≤ 8) (hdg : decode cc pc = .ok (.invokespecial index, 3)) (hcr : cells + mc ≤ R.cells ∧ slots + ms ≤ R.slots)
    (kk : ∀ (q : Nat → Nat) (H1 : Heap) (locs1 : List Loc), va_P D vwCl (wr ++ wN q) H1 → va_D A (wr ++ wN q) → va_S A s.heap H1 locs1 → W p l e R s m args below meth c H1 locs1 (cells + mc) (slots + ms) Q (F0 m (pc + 3) ls rest)) : W p l e R s m args below meth c H locs cells slots Q (F0 m pc ls st0) := by
  have hj1 : [j].map (fun i => ws[i]?) = [((b, .inr (ci, fs)) : Nat × va_E)].map some := by simp [hj]
  have hFc := va_free (wc := [(b, .inr (ci, fs))]) hD hS hA [j] hj1
  refine va_callv (va_runI (As := []) (rest := rest) S hM cw ⟨PR_blind, pr_mk (va_P_pick hP hj1) hK (hD.sub [j] rfl hj1) hN hZ hS hFc⟩ rfl rfl hsz hst (lv_room hW) hdg hcr) hS (fun q _ h => hFc q h) hFc (fun u t H1 locs1 ht hvm hw hB hz1 hk1 hS1 => ?_)
  obtain ⟨hP1, -, hD1⟩ := hB
  rw [ht] at hP1
  obtain ⟨g1, g2⟩ := va_join hP hD [j] is hj1 hR hnd hdis hk1 hFc hP1 hD1
  exact kk u H1 locs1 g1 g2 hS1
theorem xInN {wN : (Nat → Nat) → va_W} {wr : va_W} {mc ms : Nat} (S : CallFix p m c cc nL s args Ts own) (hM : Met l y wsm rm (PR D ca zz [.ref b] H.size [(b, .inr (ci, fs))]) (QN D ca wN (va_A [(b, .inr (ci, fs))] H.size)) mc ms (va_A [(b, .inr (ci, fs))] H.size)) (cw : va_CN R s args own index y "NoiseWatch" bytes maxL none wsm rm mc ms 0 ∧ y.name = "<init>" ∧ (Cond.instanceMethod y).before args s = true)
    (hK : va_K D vwCl (TY ca) s) (hP : va_P D vwCl ws H) (hN : NW s) (hZ : ZS zz A s s.heap) (hA : ∀ q, s.heap.size ≤ q → A q) (hD : va_D A ws) (hS : va_S A s.heap H locs) (j : Nat) (hj : ws[j]? = some (b, .inr (ci, fs))) (is : List Nat) (hR : is.map (fun i => ws[i]?) = wr.map some) (hnd : va_nd is = true) (hdis : ∀ i ∈ is, i ∉ [j])
    (hsz : ls.size = nL) (hst : st0 = .ref b :: rest) (hW : (rest.map fun v => v.category).sum ≤ 8) (hdg : decode cc pc = .ok (.invokespecial index, 3)) (hcr : cells + mc ≤ R.cells ∧ slots + ms ≤ R.slots)
    (kk : ∀ (q : Nat → Nat) (H1 : Heap) (locs1 : List Loc), va_P D vwCl (wr ++ wN q) H1 → va_D A (wr ++ wN q) → va_S A s.heap H1 locs1 → W p l e R s m args below meth c H1 locs1 (cells + mc) (slots + ms) Q (F0 m (pc + 3) ls rest)) : W p l e R s m args below meth c H locs cells slots Q (F0 m pc ls st0) := by
  have hj1 : [j].map (fun i => ws[i]?) = [((b, .inr (ci, fs)) : Nat × va_E)].map some := by simp [hj]
  have hFc := va_free (wc := [(b, .inr (ci, fs))]) hD hS hA [j] hj1
  refine va_callv (va_runIN (As := []) (rest := rest) S hM cw ⟨PR_blind, pr_mk (va_P_pick hP hj1) hK (hD.sub [j] rfl hj1) hN hZ hS hFc⟩ rfl rfl hsz hst (lv_room hW) hdg hcr) hS (fun q _ h => hFc q h) hFc (fun u t H1 locs1 ht hvm hw hB hz1 hk1 hS1 => ?_)
  obtain ⟨hP1, -, hD1⟩ := hB
  rw [ht] at hP1
  obtain ⟨g1, g2⟩ := va_join hP hD [j] is hj1 hR hnd hdis hk1 hFc hP1 hD1
  exact kk u H1 locs1 g1 g2 hS1
theorem xclone (hx : p.tables.exec = Jvm.exec) (hb : c.code = cc) (hml : c.maxLocals = ls.size) (hown : s.vm.findClass own = some m.cls)
    (hlink : (Cond.methodLink own index ⟨"[I", "clone", "()Ljava/lang/Object;"⟩).before args s = true) (hsame : (Cond.sameMethod "[I" "java/lang/Object" "clone" "()Ljava/lang/Object;").before args s = true)
    (hnat : (Cond.native ⟨"java/lang/Object", "clone", "()Ljava/lang/Object;"⟩).before args s = true) (hinst : (Cond.instanceMethod ⟨"java/lang/Object", "clone", "()Ljava/lang/Object;"⟩).before args s = true)
    (hsel : (Cond.selects "[I" ⟨"[I", "clone", "()Ljava/lang/Object;"⟩ ⟨"java/lang/Object", "clone", "()Ljava/lang/Object;"⟩).before args s = true) (hcl : va_Nw (.castable "[I" "java/lang/Cloneable") s)
    (hK : va_K D vwCl (TY ca) s) (hP : va_P D vwCl ws H) (hD : va_D A ws) (hS : va_S A s.heap H locs) (hA : ∀ q, s.heap.size ≤ q → A q) {a : Nat} {f : Nat → Int32} (hT : va_T .int a 9 (fun j => .int (f j)) A s s.heap) (hC : ZC a s s.heap)
    (hframes : 1 ≤ R.frames) (hlocals : (rest.map fun v => v.category).sum + 14 ≤ R.locals) (hcells : cells + 1 ≤ R.cells) (hslots : slots + 9 ≤ R.slots) (hdg : decode cc pc = .ok (.invokevirtual index, 3))
    (kk : ∀ (q : Nat) (H1 : Heap), va_P D vwCl (ws ++ [(q, .inl (ca 0, 9, .inl f))]) H1 → va_D A (ws ++ [(q, .inl (ca 0, 9, .inl f))]) → va_S A s.heap H1 locs →
      W p l e R s m args below meth c H1 locs (cells + 1) (slots + 9) Q (F0 m (pc + 3) ls (.ref q :: rest))) : W p l e R s m args below meth c H locs cells slots Q (F0 m pc ls (.ref a :: rest)) := by
  obtain ⟨cell, c1, c2, c3, -, -, c4, c5⟩ := hT
  obtain ⟨cell', d1, d2, d3⟩ := hC
  rw [c1] at d1
  cases d1
  have hnm : s.vm.findClass "[I" = some (ca 0) := (hK.2 0 _ rfl).2
  have hcc : cell.cls = ca 0 := by rw [hnm] at d3; exact (Option.some.inj d3).symm
  have hcellE : ({ cls := cell.cls, slots := cell.slots } : Cell) = vp_cell (ca 0) (9, .inl f) := by
    rw [hcc]
    show ({ cls := ca 0, slots := cell.slots } : Cell) = arrV (ca 0) 9 (fun j => .int (f j))
    have : cell.slots = (arrV (ca 0) 9 (fun j => .int (f j))).slots := by
      apply Array.ext
      · rw [arrV_size]; exact d2
      · intro i h1 h2
        have h3 : i < 9 := by rw [← d2]; exact h1
        have h4 := c4 i h3
        rw [Array.getElem?_eq_getElem h1] at h4
        rw [Option.some.inj h4]
        simp [arrV]
    rw [this]
    rfl
  obtain ⟨c0, t0', f1, f2, f3⟩ := Cond.castable_spec (va_Nw.use (A := args) rfl hcl)
  cases hnm.symm.trans f1
  intro T hT' X
  have hcellT : T.heap[a]? = some cell := by rw [hT', hS.2.1 a (Array.getElem?_eq_some_iff.mp c1).1 c5]; exact c1
  obtain ⟨-, kA, hkA, comp, hkind⟩ := State.isArrayOf_alike X.warmed.alike ((hK.2 0 _ rfl).1 0 (fun _ => .null))
  obtain ⟨-, kS, hkS, compS, hkindS⟩ := (hK.2 0 _ rfl).1 0 (fun _ => .null)
  obtain ⟨vm', X', st⟩ := X.cloneArray hx hown hlink hsame hnat hinst hsel (a := a) (cell := cell) hcellT c2.1 c3 d3 f2 (by rw [hcc]; exact f3)
    (fun i v hv => by
      rw [hcc]
      have hk' : T.vm.classes[ca 0]? = some kA := hkA
      have hi : i < 9 := by rw [← d2]; exact (Array.getElem?_eq_some_iff.mp hv).1
      rw [c4 i hi] at hv
      cases hv
      simp [State.fitsSlot, State.slotType?, hk', hkind, fits])
    (g := F0 m pc ls (.ref a :: rest)) rfl (by rw [hml]) rfl (by rw [hb]; exact hdg) hframes (by show 2 * 0 + _ + 14 ≤ _; omega) hcells (by rw [d2]; exact hslots) (hloader := by rw [hcc]; exact Vm.clonesLoader_of_array hkS hkindS)
  rw [hcellE, d2] at X'
  generalize hH1 : H.push (vp_cell (ca 0) (9, .inl f)) = H1
  have z1 : H1.size = H.size + 1 := by rw [← hH1, Array.size_push]
  have e1 : H1[H.size]? = some (vp_cell (ca 0) (9, .inl f)) := by rw [← hH1, Array.getElem?_push_size]
  have o1 : ∀ q : Nat, q < H.size → H1[q]? = H[q]? := fun q hq => by rw [← hH1, Array.getElem?_push, if_neg (Nat.ne_of_lt hq)]
  have hk : ∀ (k : Nat) (y : Nat × va_E), ws[k]? = some y → H1[y.1]? = H[y.1]? := fun k y hy => o1 y.1 ((hP k y hy).lt)
  obtain ⟨t, b1, b2⟩ := kk H.size H1 ((hP.kept hk).app (fun k x hx => by
      rcases k with _ | k
      · cases hx; exact e1
      · simp at hx)) (hD.push hP rfl (hA _ hS.1)) ⟨Nat.le_trans hS.1 (by omega), fun x h1 h2 => (o1 x (Nat.lt_of_lt_of_le h1 hS.1)).trans (hS.2.1 x h1 h2), hS.2.2⟩ ((T.setVm vm').pushCell (vp_cell (ca 0) (9, .inl f))) (by rw [← hH1, ← hT']; rfl) X'
  refine ⟨t, st t ?_, b2⟩
  rw [hcellE, hT']
  exact b1
end LIBN
end mp_09_liby
section mp_09_libz
abbrev QIo (D : va_G) (ca : Nat → ClassId) (ro : Option Int32) (ws : va_W) (A : Nat → Prop) : Array Value → State → Outcome → State → Prop := va_Qi (fun (r' : Int32) (_ : Unit) => ro = some r') (fun _ t => va_P D vwCl ws t.heap ∧ va_K D vwCl (TY ca) t ∧ va_D A ws) A
abbrev QXo (D : va_G) (ca : Nat → ClassId) (ro : Option Int32) (ws : va_W) (A : Nat → Prop) : String → State → State → Prop := vx_X (fun (_ : Unit) => ro = none) (fun E _ t => E = "java/util/NoSuchElementException" ∧ va_P D vwCl ws t.heap ∧ va_K D vwCl (TY ca) t ∧ va_D A ws) A
section LIBT
variable {p : Program} {l : Launch} {e : Env} {R : Room} {s : State} {m : MethodId} {args : Array Value} {below : List Frame} {meth : Method} {c : Code} {H : Heap} {locs : List Loc} {cells slots : Nat} {Q : State → Prop} {A : Nat → Prop} {D : va_G} {ca : Nat → ClassId} {zz : Nat → Nat} {cc bytes : ByteArray} {pc : Nat} {ls : Array Slot} {rest st0 As : List Value}
variable {nL maxL n index ci N : Nat} {Ts wsm : List Cond} {own C : String} {y : MethodName} {ret : Option FieldType} {rm : Room} {b : Nat} {wc wn ws wx : va_W} {T : u_T} {fs : List Value} {ρ : Type} {r0 : ρ}
theorem enx {wsm ws' : List Cond} {av : List Value} {sz mc ms : Nat} {ws : va_W} {Qf : (Nat → Prop) → Array Value → State → Outcome → State → Prop} {Xf : (Nat → Prop) → String → State → State → Prop} (hy : plainName y.cls = true) (hw : wsm = Cond.code y cc maxL ret :: ws') (hlen : (lg_sl av).length ≤ maxL)
    (body : ∀ (p : Program) (e : Env) (s : State) (m : MethodId) (args : Array Value) (below : List Frame) (meth : Method) (c : Code) (A : Nat → Prop) (Q : State → Prop) (ls : Array Slot),
      p.tables.exec = Jvm.exec → c.code = cc → meth.sig.returnType = ret → c.maxLocals = maxL → s.vm.findClass y.cls = some m.cls → (∀ w ∈ wsm, w.before args s = true) → meth.locks = false → (∀ x ∈ c.exceptionTable.toList, False) →
      (∀ q : Nat, s.heap.size ≤ q → A q) → NW s → ZS zz A s s.heap → va_K D vwCl (TY ca) s → Q = vx_MQ below (Qf A) (Xf A) args s mc ms A → va_P D vwCl ws s.heap → va_D A ws → va_S A s.heap s.heap [] → lv_has ls maxL (lv_args 0 av) →
      W p l e rm s m args below meth c s.heap [] 0 0 Q (F0 m 0 ls [])) :
    vx_Met l y wsm rm (PR D ca zz av sz ws) (Qf (va_A ws sz)) (Xf (va_A ws sz)) mc ms (va_A ws sz) := by
  refine vx_ofW (cc := cc) (maxL := maxL) (ret := ret) hy hw ?_
  intro p e s m args below meth c s₁ B hml ht hv
  obtain ⟨rfl, hsz, hP, hK, hD0, hN, hZ⟩ := hv
  subst hsz
  have hl := lv_entry av (n := maxL) hlen
  rw [lg_entry_eq]
  exact body p e s m _ below meth c (va_A ws s.heap.size) _ _ B.exec B.bytes B.returns hml (findClass_of_methodNamed B.named) (atoms_spec (ws := wsm) B.pre) B.notSynchronized ht (fun q h => Or.inr h) hN hZ hK rfl hP (hD0.self (sz := s.heap.size)) va_S.rf hl
theorem rt_Io {ro : Option Int32} {v : Int32} {mc ms : Nat} (hx : p.tables.exec = Jvm.exec) (hb : c.code = cc) (hr : meth.sig.returnType = some .int) (hlocks : meth.locks = false) (hK : va_K D vwCl (TY ca) s) (hP : va_P D vwCl ws H) (hD : va_D A ws) (hS : va_S A s.heap H locs) (hQ : Q = vx_MQ below (QIo D ca ro wn A) (QXo D ca ro wn A) args s mc ms A) (ev : ro = some v) (ew : ws = wn) (hc : cells ≤ mc) (hs : slots ≤ ms) (hdg : decode cc pc = .ok (.ireturn, 1)) : W p l e R s m args below meth c H locs cells slots Q (F0 m pc ls [.int v]) := by
  subst ew; subst hQ
  refine vx_ret ?_
  refine W.widen (k := mc) (n := ms) hc hs ?_
  exact W.iret hx hb hr (fun t ht hW => ⟨⟨v, (), rfl, ev, by rw [ht]; exact hP, va_K.moved hW.alike hK, hD⟩, hS.F ht⟩) hS.2.2 hdg
theorem xthrow {ro : Option Int32} {mc ms : Nat} (hx : p.tables.exec = Jvm.exec) (hb : c.code = cc) (hl : l.stackTraces = false) (hown : s.vm.findClass RX11 = some m.cls) (hk : (Cond.classLink RX11 154 "java/util/NoSuchElementException").before args s = true) (hini : (Cond.initialized "java/util/NoSuchElementException").before args s = true) (hN : NW s) (hZ : ZS zz A s s.heap) (hK : va_K D vwCl (TY ca) s) (hP : va_P D vwCl ws H) (hD : va_D A ws) (hS : va_S A s.heap H locs) (hA : ∀ q, s.heap.size ≤ q → A q) (hQ : Q = vx_MQ below (QIo D ca ro wn A) (QXo D ca ro wn A) args s mc ms A) (er : ro = none) (ew : ws = wn) (hsize : ls.size = c.maxLocals) (ht : ∀ x ∈ c.exceptionTable.toList, False) (hlocks : meth.locks = false)
    (d0 : decode cc pc = .ok (.new 154, 3)) (d3 : decode cc (pc + 3) = .ok (.dup, 1)) (d4 : decode cc (pc + 4) = .ok (.invokespecial 156, 3)) (d7 : decode cc (pc + 7) = .ok (.athrow, 1))
    (hRframes : 2 + 3 < R.frames) (hRlocals : (rest.map fun v => v.category).sum + (13 * (2 + 1) + 42) ≤ R.locals) (hRcells : cells + 1 ≤ R.cells) (hRslots : slots + 6 ≤ R.slots) (hc : cells + 1 ≤ mc) (hs : slots + 6 ≤ ms) : W p l e R s m args below meth c H locs cells slots Q (F0 m pc ls rest) := by
  subst ew; subst hQ
  refine vx_throw0 (own := RX11) (cls := "java/util/NoSuchElementException") (names := ["java/lang/RuntimeException", "java/lang/Exception"]) (ik := 154) (ic := 156) hx hb hl hown (by decide +kernel) (by decide +kernel) hk hini (fun w hw => ?_) (by decide +kernel) hZ.2.2.2.1.1 hZ.2.2.2.1.2 hS hsize d0 d3 d4 d7 (fun x hx => absurd hx (fun h => ht x h)) hRframes hRlocals hRcells hRslots hlocks (fun t hvm hz hq => ?_) hS.2.2 hc hs
  · have h1 := List.all_eq_true.mp atL_ok w hw
    have h2 := hN.2.2.2 w hw
    have h3 : w.onTables = true := by
      rcases Bool.or_eq_true _ _ ▸ h1 with h3 | h3
      · exact (Bool.and_eq_true _ _ ▸ h3 : _ ∧ _).1
      · cases w <;> first | rfl | cases h3
    exact va_Nw.use h3 h2
  · refine ⟨(), er, ⟨rfl, hP.kept (fun k x hx => hq x.1 (hP k x hx).lt), va_K.moved hvm hK, hD⟩, Nat.le_trans hS.1 hz, fun q h1 h2 => ?_⟩
    rw [hq q (Nat.lt_of_lt_of_le h1 hS.1)]
    exact hS.2.1 q h1 h2
theorem rt_Zm {v r : Int32} {mc ms : Nat} (hx : p.tables.exec = Jvm.exec) (hb : c.code = cc) (hr : meth.sig.returnType = some .boolean) (hlocks : meth.locks = false) (hK : va_K D vwCl (TY ca) s) (hP : va_P D vwCl ws H) (hD : va_D A ws) (hS : va_S A s.heap H locs) (hQ : Q = MQ below (QI D ca r wn A) args s mc ms A) (hv : v = 0 ∨ v = 1) (ev : v = r) (ew : ws = wn) (hc : cells ≤ mc) (hs : slots ≤ ms) (hdg : decode cc pc = .ok (.ireturn, 1)) : W p l e R s m args below meth c H locs cells slots Q (F0 m pc ls [.int v]) := by
  subst ev; subst ew; subst hQ
  refine W.widen (k := mc) (n := ms) hc hs ?_
  exact W.zret hx hb hr (by rcases hv with h | h <;> (rw [h]; rfl)) (fun t ht hW => ⟨⟨v, (), rfl, rfl, by rw [ht]; exact hP, va_K.moved hW.alike hK, hD⟩, hS.F ht⟩) hS.2.2 hdg
def chknull {ρ : Type} (o : Option Nat) (k : Option ρ) : Option ρ := match o with
  | none => k
  | some _ => none
theorem chknull_el {ρ : Type} {o : Option Nat} {k : Option ρ} {r : ρ} (h : chknull o k = some r) : o = none ∧ k = some r := by
  cases o with
  | none => exact ⟨rfl, h⟩
  | some a => cases h
theorem xaldn (hx : p.tables.exec = Jvm.exec) (hb : c.code = cc) (hK : va_K D vwCl (TY ca) s) (hP : va_P D vwCl ws H) (q0 : Nat) {a n : Nat} {f : Nat → Option Nat} (ha : ws[q0]? = some (a, .inl (ca 4, n, .inr (.inr (.inr (.inr f)))))) {i : Int32} {kx : Option ρ} (hf : chkin i n (chknull (f i.toNatClampNeg) kx) = some r0) (hdg : decode cc pc = .ok (.aaload, 1)) (kk : f i.toNatClampNeg = none → kx = some r0 → W p l e R s m args below meth c H locs cells slots Q (F0 m (pc + 1) ls (.null :: rest))) : W p l e R s m args below meth c H locs cells slots Q (F0 m pc ls (.int i :: .ref a :: rest)) := by
  obtain ⟨h1, h2⟩ := chkin_el hf
  obtain ⟨h3, h4⟩ := chknull_el h2
  refine va_aldq hx hb hK hP q0 4 ha rfl h1 hdg ?_
  rw [h3]
  exact kk h3 h4
end LIBT
end mp_09_libz
section mp_09_zlibp
section LIBP
theorem wmk_fst {ws wc wn : va_W} (is : List Nat) (ms : List (Option Nat)) (hm : wmOK ms is = true) (hC : is.map (fun i => ws[i]?) = wc.map some) (hf : wn.map Prod.fst = wc.map Prod.fst) : (wmk ws ms wn).map Prod.fst = ws.map Prod.fst := by
  have hlen : wn.length = wc.length := by simpa using congrArg List.length hf
  apply List.ext_getElem?
  intro k
  rw [List.getElem?_map, List.getElem?_map]
  cases hq : (wmk ws ms wn)[k]? with
  | none =>
    have : ws[k]? = none := List.getElem?_eq_none (by rw [← wmk_len ws ms wn]; exact List.getElem?_eq_none_iff.mp hq)
    rw [this]
  | some q =>
    obtain ⟨w, h1, h2⟩ := wmk_get ws ms wn k q hq
    rw [h1]
    rcases h2 with ⟨j, g1, g2⟩ | ⟨g1, g2⟩
    · have h3 : (is.map (fun i => ws[i]?))[j]? = some (some w) := by rw [List.getElem?_map, wmOK_some hm g1]; simp [h1]
      rw [hC, List.getElem?_map] at h3
      cases hz : wc[j]? with
      | none => rw [hz] at h3; cases h3
      | some z =>
        rw [hz] at h3
        have hzw : z = w := Option.some.inj (Option.some.inj h3)
        have hl : j < wn.length := by rw [hlen]; exact (List.getElem?_eq_some_iff.mp hz).1
        have h4 : (wn.map Prod.fst)[j]? = some w.1 := by rw [hf, List.getElem?_map, hz, hzw]; rfl
        rw [List.getElem?_map, List.getElem?_eq_getElem hl] at h4
        have h5 : q = wn[j] := by rw [g2, List.getD_eq_getElem?_getD, List.getElem?_eq_getElem hl]; rfl
        rw [h5]; exact h4
    · rw [g2]
/-- cells replaced in their places, new ones behind them -/
theorem wmk_J {A : Nat → Prop} {D : va_G} {cl : List vw_C} {ws wc wn nw : va_W} {H H1 : Heap} (hP : va_P D cl ws H) (hD : va_D A ws) (is : List Nat) (ms : List (Option Nat)) (hm : wmOK ms is = true) (hC : is.map (fun i => ws[i]?) = wc.map some) (hf : wn.map Prod.fst = wc.map Prod.fst)
    (hk : ∀ q : Nat, q < H.size → ¬ va_A wc H.size q → H1[q]? = H[q]?) (hFc : ∀ q, va_A wc H.size q → A q) (hP1 : va_P D cl (wn ++ nw) H1) (hD1 : va_D (va_A wc H.size) (wn ++ nw)) : va_P D cl (wmk ws ms wn ++ nw) H1 ∧ va_D A (wmk ws ms wn ++ nw) := by
  have hl : ∀ (k : Nat) (q : Nat × va_E), wn[k]? = some q → (wn ++ nw)[k]? = some q := fun k q h => by
    rw [List.getElem?_append_left (List.getElem?_eq_some_iff.mp h).1]; exact h
  have hr : ∀ (k : Nat) (q : Nat × va_E), nw[k]? = some q → (wn ++ nw)[wn.length + k]? = some q := fun k q h => by
    rw [List.getElem?_append_right (Nat.le_add_right _ _), Nat.add_sub_cancel_left]; exact h
  have hPn : va_P D cl wn H1 := fun k q h => hP1 k q (hl k q h)
  obtain ⟨g1, g2⟩ := wmk_P hP hD is ms hm hC hf hk hPn
  have hfst := wmk_fst is ms hm hC hf
  have old : ∀ (i : Nat) (p : Nat × va_E), (wmk ws ms wn)[i]? = some p → p.1 < H.size := by
    intro i p h
    have h1 : ((wmk ws ms wn).map Prod.fst)[i]? = some p.1 := by rw [List.getElem?_map, h]; rfl
    rw [hfst, List.getElem?_map] at h1
    cases hq : ws[i]? with
    | none => rw [hq] at h1; cases h1
    | some q =>
      rw [hq] at h1
      have : q.1 = p.1 := Option.some.inj h1
      rw [← this]; exact (hP i q hq).lt
  have new : ∀ (j : Nat) (q : Nat × va_E), nw[j]? = some q → H.size ≤ q.1 := by
    intro j q h
    rcases hD1.2 _ q (hr j q h) with ⟨k2, e, h3⟩ | h3
    · exfalso
      have h4 : (wc.map Prod.fst)[k2]? = some q.1 := by rw [List.getElem?_map, h3]; rfl
      rw [← hf, List.getElem?_map] at h4
      cases hz : wn[k2]? with
      | none => rw [hz] at h4; cases h4
      | some z =>
        rw [hz] at h4
        have e1 : z.1 = q.1 := Option.some.inj h4
        have := hD1.1 k2 (wn.length + j) z q (hl k2 z hz) (hr j q h) e1
        have h5 := (List.getElem?_eq_some_iff.mp hz).1
        omega
    · exact h3
  refine ⟨va_P.app g1 (fun k q h => hP1 _ q (hr k q h)), fun i j p q hp hq e => ?_, fun k q hq => ?_⟩
  · rw [List.getElem?_append] at hp hq
    split at hp <;> split at hq
    · exact g2.1 i j p q hp hq e
    · have := old i p hp; have := new _ q hq; omega
    · have := old j q hq; have := new _ p hp; omega
    · have := hD1.1 _ _ p q (hr _ p hp) (hr _ q hq) e
      omega
  · rw [List.getElem?_append] at hq
    split at hq
    · exact g2.2 k q hq
    · exact hFc _ (hD1.2 _ q (hr _ q hq))
theorem va_P_perm {D : va_G} {cl : List vw_C} {ws ws' : va_W} {H : Heap} (h : ws.Perm ws') (hP : va_P D cl ws H) : va_P D cl ws' H := by
  intro k q hq
  have hm : q ∈ ws := h.mem_iff.mpr (List.mem_of_getElem? hq)
  obtain ⟨i, hi⟩ := List.getElem?_of_mem hm
  exact hP i q hi
theorem va_D_nodup {A : Nat → Prop} {ws : va_W} : va_D A ws ↔ ((ws.map Prod.fst).Nodup ∧ ∀ q ∈ ws, A q.1) := by
  constructor
  · intro h
    refine ⟨?_, fun q hq => ?_⟩
    · rw [List.Nodup, List.pairwise_iff_getElem]
      intro i j hi hj hij he
      rw [List.length_map] at hi hj
      rw [List.getElem_map, List.getElem_map] at he
      have := h.1 i j _ _ (List.getElem?_eq_getElem hi) (List.getElem?_eq_getElem hj) he
      omega
    · obtain ⟨i, hi⟩ := List.getElem?_of_mem hq
      exact h.2 i q hi
  · intro h
    refine ⟨fun i j p q hp hq e => ?_, fun k q hq => h.2 q (List.mem_of_getElem? hq)⟩
    have hn := h.1
    rw [List.Nodup, List.pairwise_iff_getElem] at hn
    obtain ⟨hi, ei⟩ := List.getElem?_eq_some_iff.mp hp
    obtain ⟨hj, ej⟩ := List.getElem?_eq_some_iff.mp hq
    rcases Nat.lt_trichotomy i j with h1 | h1 | h1
    · exact absurd (by rw [List.getElem_map, List.getElem_map, ei, ej, e]) (hn i j (by rw [List.length_map]; exact hi) (by rw [List.length_map]; exact hj) h1)
    · exact h1
    · exact absurd (by rw [List.getElem_map, List.getElem_map, ei, ej, e]) (hn j i (by rw [List.length_map]; exact hj) (by rw [List.length_map]; exact hi) h1)
theorem va_D_perm {A : Nat → Prop} {ws ws' : va_W} (h : ws.Perm ws') (hD : va_D A ws) : va_D A ws' := by
  rw [va_D_nodup] at hD ⊢
  exact ⟨(h.map Prod.fst).nodup_iff.mp hD.1, fun q hq => hD.2 q (h.mem_iff.mpr hq)⟩
end LIBP
abbrev QNz (D : va_G) (ca : Nat → ClassId) (r : Int32) (wN : (Nat → Nat) → va_W) (A : Nat → Prop) : Array Value → State → Outcome → State → Prop := va_Qi (fun (r' : Int32) (_ : Nat → Nat) => r' = r) (fun q t => va_P D vwCl (wN q) t.heap ∧ va_K D vwCl (TY ca) t ∧ va_D A (wN q)) A
section LIBQ
variable {p : Program} {l : Launch} {e : Env} {R : Room} {s : State} {m : MethodId} {args : Array Value} {below : List Frame} {meth : Method} {c : Code} {H : Heap} {locs : List Loc} {cells slots : Nat} {Q : State → Prop} {A : Nat → Prop} {D : va_G} {ca : Nat → ClassId} {zz : Nat → Nat} {cc bytes : ByteArray} {pc : Nat} {ls : Array Slot} {rest st0 As : List Value}
variable {nL maxL n index ci N : Nat} {Ts wsm : List Cond} {own C : String} {y : MethodName} {ret : Option FieldType} {rm : Room} {b : Nat} {wc wn ws wx : va_W} {T : u_T} {fs : List Value} {ρ : Type} {r0 : ρ}
theorem rt_Nz {wN : (Nat → Nat) → va_W} {mc ms : Nat} {v r : Int32} (q : Nat → Nat) (hx : p.tables.exec = Jvm.exec) (hb : c.code = cc) (hr : meth.sig.returnType = some .boolean) (hlocks : meth.locks = false) (hK : va_K D vwCl (TY ca) s) (hP : va_P D vwCl ws H) (hD : va_D A ws) (hS : va_S A s.heap H locs) (hQ : Q = MQ below (QNz D ca r wN A) args s mc ms A) (hv : v = 0 ∨ v = 1) (ev : v = r) (ew : ws = wN q) (hc : cells ≤ mc) (hs : slots ≤ ms) (hdg : decode cc pc = .ok (.ireturn, 1)) : W p l e R s m args below meth c H locs cells slots Q (F0 m pc ls [.int v]) := by
  subst ev; subst ew; subst hQ
  refine W.widen (k := mc) (n := ms) hc hs ?_
  exact W.zret hx hb hr (by rcases hv with h | h <;> (rw [h]; rfl)) (fun t ht hW => ⟨⟨v, q, rfl, rfl, by rw [ht]; exact hP, va_K.moved hW.alike hK, hD⟩, hS.F ht⟩) hS.2.2 hdg
/-- a call that makes cells -/
theorem xImgN {mc ms : Nat} {r : Int32} {wn nw : (Nat → Nat) → va_W} (S : CallFix p m c cc nL s args Ts own) (hM : Met l y wsm rm (PR D ca zz (.ref b :: As) H.size wc) (QNz D ca r (fun q => wn q ++ nw q) (va_A wc H.size)) mc ms (va_A wc H.size)) (cw : CallW R s args own C index y bytes maxL ret wsm rm mc ms n)
    (hK : va_K D vwCl (TY ca) s) (hN : NW s) (hZ : ZS zz A s s.heap) (hA : ∀ q, s.heap.size ≤ q → A q) (hP : va_P D vwCl ws H) (hD : va_D A ws) (hS : va_S A s.heap H locs) (is : List Nat) (pm : List (Option Nat)) (hm : wmOK pm is = true) (hC : is.map (fun i => ws[i]?) = wc.map some) (hnd : va_nd is = true) (hf : ∀ q, (wn q).map Prod.fst = wc.map Prod.fst)
    (hc : vwCl[ci]? = some (C, T, N)) (q0 : Nat) (he : ws[q0]? = some (b, .inr (ci, fs))) (hn : As.length = n) (hsz : ls.size = nL) (hst : st0 = As.reverse ++ .ref b :: rest) (hW : (rest.map fun v => v.category).sum ≤ 8) (hdg : decode cc pc = .ok (.invokevirtual index, 3)) (hcr : cells + mc ≤ R.cells ∧ slots + ms ≤ R.slots)
    (kk : ∀ (q : Nat → Nat) (H1 : Heap) (locs1 : List Loc), va_P D vwCl (wmk ws pm (wn q) ++ nw q) H1 → va_D A (wmk ws pm (wn q) ++ nw q) → va_S A s.heap H1 locs1 → W p l e R s m args below meth c H1 locs1 (cells + mc) (slots + ms) Q (F0 m (pc + 3) ls (.int r :: rest))) : W p l e R s m args below meth c H locs cells slots Q (F0 m pc ls st0) := by
  have hFc := va_free (wc := wc) hD hS hA is hC
  refine va_calli (va_runV (As := As) (rest := rest) S hM cw ⟨PR_blind, va_recv hK hP hc he, pr_mk (va_P_pick hP hC) hK (hD.sub is hnd hC) hN hZ hS hFc⟩ rfl hn hsz hst (lv_room hW) hdg hcr) hS (fun q _ h => hFc q h) hFc (fun r' u t H1 locs1 ht hvm hw hB hz1 hk1 hS1 => ?_)
  obtain ⟨hP1, -, hD1⟩ := hB
  rw [ht] at hP1
  obtain ⟨g1, g2⟩ := wmk_J hP hD is pm hm hC (hf u) hk1 hFc hP1 hD1
  subst hw
  exact kk u H1 locs1 g1 g2 hS1
end LIBQ
end mp_09_zlibp
section mp_10_gl
/-- the good words of the tables -/
def GL : List Cond := lw_tbl.filter goodWord
theorem GL_t {w : Cond} (h : w ∈ tables_1) (g : goodWord w = true) : w ∈ GL := List.mem_filter.mpr ⟨List.mem_append_right _ h, g⟩
theorem GL_1 {w : Cond} (h : w ∈ tables_1_1) (g : goodWord w = true) : w ∈ GL := GL_t (List.mem_append_left _ h) g
theorem GL_2 {w : Cond} (h : w ∈ tables_1_2) (g : goodWord w = true) : w ∈ GL := GL_t (List.mem_append_right _ (List.mem_append_left _ h)) g
theorem GL_3 {w : Cond} (h : w ∈ tables_1_3) (g : goodWord w = true) : w ∈ GL := GL_t (List.mem_append_right _ (List.mem_append_right _ (List.mem_append_left _ h))) g
theorem GL_4 {w : Cond} (h : w ∈ tables_1_4) (g : goodWord w = true) : w ∈ GL := GL_t (List.mem_append_right _ (List.mem_append_right _ (List.mem_append_right _ (List.mem_append_left _ h)))) g
theorem GL_5 {w : Cond} (h : w ∈ tables_1_5) (g : goodWord w = true) : w ∈ GL := GL_t (List.mem_append_right _ (List.mem_append_right _ (List.mem_append_right _ (List.mem_append_right _ (List.mem_append_left _ h))))) g
theorem GL_6 {w : Cond} (h : w ∈ tables_1_6) (g : goodWord w = true) : w ∈ GL := GL_t (List.mem_append_right _ (List.mem_append_right _ (List.mem_append_right _ (List.mem_append_right _ (List.mem_append_right _ (List.mem_append_left _ h)))))) g
theorem GL_7 {w : Cond} (h : w ∈ tables_1_7) (g : goodWord w = true) : w ∈ GL := GL_t (List.mem_append_right _ (List.mem_append_right _ (List.mem_append_right _ (List.mem_append_right _ (List.mem_append_right _ (List.mem_append_right _ (h))))))) g
theorem GL_p {q : MethodName × Nat} (h : q ∈ lw_privs) : Cond.selects q.1.cls q.1 q.1 ∈ GL := List.mem_filter.mpr ⟨List.mem_append_left _ (List.mem_map.mpr ⟨q, h, rfl⟩), rfl⟩
theorem GL_s1 {q : MethodName × Nat} (h : q ∈ lw_privs_1) : Cond.selects q.1.cls q.1 q.1 ∈ GL := GL_p (List.mem_append_left _ h)
theorem GL_s2 {q : MethodName × Nat} (h : q ∈ lw_privs_2) : Cond.selects q.1.cls q.1 q.1 ∈ GL := GL_p (List.mem_append_right _ (List.mem_append_left _ h))
theorem GL_s3 {q : MethodName × Nat} (h : q ∈ lw_privs_3) : Cond.selects q.1.cls q.1 q.1 ∈ GL := GL_p (List.mem_append_right _ (List.mem_append_right _ (List.mem_append_left _ h)))
theorem GL_s4 {q : MethodName × Nat} (h : q ∈ lw_privs_4) : Cond.selects q.1.cls q.1 q.1 ∈ GL := GL_p (List.mem_append_right _ (List.mem_append_right _ (List.mem_append_right _ (List.mem_append_left _ h))))
theorem GL_s5 {q : MethodName × Nat} (h : q ∈ lw_privs_5) : Cond.selects q.1.cls q.1 q.1 ∈ GL := GL_p (List.mem_append_right _ (List.mem_append_right _ (List.mem_append_right _ (List.mem_append_right _ (h)))))
theorem GL_good {w : Cond} (h : w ∈ GL) : w ∈ lw_tbl ∧ ((w.onTables && w.keeps) = true ∨ ∃ ty, w = .arrayClass ty) := ⟨(List.mem_filter.mp h).1, good_of_word (List.mem_filter.mp h).2⟩
theorem gI {x k : Cond} (h5 : k ∈ GL) : GoodIn (x :: GL) (k :: GL) := fun w h => (List.mem_cons.mp h).elim (fun e => e ▸ ⟨List.mem_cons_of_mem _ h5, (GL_good h5).2⟩) (fun h => ⟨List.mem_cons_of_mem _ h, (GL_good h).2⟩)
theorem gV {x k : Cond} {own C : String} {idx : Nat} {y : MethodName} (h1 : Cond.methodLink own idx y ∈ GL) (h2 : Cond.instanceMethod y ∈ GL) (h3 : Cond.selects C y y ∈ GL) (h4 : Cond.initialized C ∈ GL) (h5 : k ∈ GL) : GoodIn (x :: GL) (wsV own idx C y (k :: GL)) := by
  have hg : ∀ w ∈ GL, w ∈ x :: GL ∧ ((w.onTables && w.keeps) = true ∨ ∃ ty, w = .arrayClass ty) := fun w h => ⟨List.mem_cons_of_mem _ h, (GL_good h).2⟩
  intro w h
  rcases List.mem_append.mp h with h | h
  · rcases List.mem_cons.mp h with h | h
    · rw [h]; exact hg _ h1
    rcases List.mem_cons.mp h with h | h
    · rw [h]; exact hg _ h2
    rcases List.mem_cons.mp h with h | h
    · rw [h]; exact hg _ h3
    rcases List.mem_cons.mp h with h | h
    · rw [h]; exact hg _ h4
    · exact absurd h List.not_mem_nil
  · exact gI h5 w h
theorem gS {x k : Cond} {own : String} {idx : Nat} {y : MethodName} (h1 : Cond.methodLink own idx y ∈ GL) (h2 : Cond.static y ∈ GL) (h4 : Cond.initialized y.cls ∈ GL) (h5 : k ∈ GL) : GoodIn (x :: GL) (va_wsS own idx y (k :: GL)) := by
  have hg : ∀ w ∈ GL, w ∈ x :: GL ∧ ((w.onTables && w.keeps) = true ∨ ∃ ty, w = .arrayClass ty) := fun w h => ⟨List.mem_cons_of_mem _ h, (GL_good h).2⟩
  intro w h
  rcases List.mem_append.mp h with h | h
  · rcases List.mem_cons.mp h with h | h
    · rw [h]; exact hg _ h1
    rcases List.mem_cons.mp h with h | h
    · rw [h]; exact hg _ h2
    rcases List.mem_cons.mp h with h | h
    · rw [h]; exact hg _ h4
    · exact absurd h List.not_mem_nil
  · exact gI h5 w h
theorem glX0_0 : u_lay RX0 TX0 0 ∈ GL := GL_2 (List.mem_of_getElem? (i := 172) rfl) rfl
theorem glX0_1 : u_lay RX0 TX0 1 ∈ GL := GL_2 (List.mem_of_getElem? (i := 174) rfl) rfl
theorem glX0_2 : u_lay RX0 TX0 2 ∈ GL := GL_2 (List.mem_of_getElem? (i := 176) rfl) rfl
theorem glX0_3 : u_lay RX0 TX0 3 ∈ GL := GL_2 (List.mem_of_getElem? (i := 178) rfl) rfl
theorem glX0_4 : u_lay RX0 TX0 4 ∈ GL := GL_2 (List.mem_of_getElem? (i := 180) rfl) rfl
theorem inX0 : ∀ w ∈ u_ws RX0 TX0 5, w ∈ GL := List.forall_mem_cons.mpr ⟨glX0_0, List.forall_mem_cons.mpr ⟨glX0_1, List.forall_mem_cons.mpr ⟨glX0_2, List.forall_mem_cons.mpr ⟨glX0_3, List.forall_mem_cons.mpr ⟨glX0_4, fun _ h => absurd h List.not_mem_nil⟩⟩⟩⟩⟩
theorem glX1_0 : u_lay RX1 TX1 0 ∈ GL := GL_1 (List.mem_of_getElem? (i := 140) rfl) rfl
theorem glX1_1 : u_lay RX1 TX1 1 ∈ GL := GL_1 (List.mem_of_getElem? (i := 142) rfl) rfl
theorem glX1_2 : u_lay RX1 TX1 2 ∈ GL := GL_1 (List.mem_of_getElem? (i := 144) rfl) rfl
theorem glX1_3 : u_lay RX1 TX1 3 ∈ GL := GL_1 (List.mem_of_getElem? (i := 146) rfl) rfl
theorem glX1_4 : u_lay RX1 TX1 4 ∈ GL := GL_1 (List.mem_of_getElem? (i := 148) rfl) rfl
theorem glX1_5 : u_lay RX1 TX1 5 ∈ GL := GL_1 (List.mem_of_getElem? (i := 150) rfl) rfl
theorem inX1 : ∀ w ∈ u_ws RX1 TX1 6, w ∈ GL := List.forall_mem_cons.mpr ⟨glX1_0, List.forall_mem_cons.mpr ⟨glX1_1, List.forall_mem_cons.mpr ⟨glX1_2, List.forall_mem_cons.mpr ⟨glX1_3, List.forall_mem_cons.mpr ⟨glX1_4, List.forall_mem_cons.mpr ⟨glX1_5, fun _ h => absurd h List.not_mem_nil⟩⟩⟩⟩⟩⟩
theorem glX2_0 : u_lay RX2 TX2 0 ∈ GL := GL_1 (List.mem_of_getElem? (i := 92) rfl) rfl
theorem glX2_1 : u_lay RX2 TX2 1 ∈ GL := GL_1 (List.mem_of_getElem? (i := 94) rfl) rfl
theorem glX2_2 : u_lay RX2 TX2 2 ∈ GL := GL_1 (List.mem_of_getElem? (i := 96) rfl) rfl
theorem glX2_3 : u_lay RX2 TX2 3 ∈ GL := GL_1 (List.mem_of_getElem? (i := 98) rfl) rfl
theorem glX2_4 : u_lay RX2 TX2 4 ∈ GL := GL_1 (List.mem_of_getElem? (i := 100) rfl) rfl
theorem inX2 : ∀ w ∈ u_ws RX2 TX2 5, w ∈ GL := List.forall_mem_cons.mpr ⟨glX2_0, List.forall_mem_cons.mpr ⟨glX2_1, List.forall_mem_cons.mpr ⟨glX2_2, List.forall_mem_cons.mpr ⟨glX2_3, List.forall_mem_cons.mpr ⟨glX2_4, fun _ h => absurd h List.not_mem_nil⟩⟩⟩⟩⟩
theorem glX3_0 : u_lay RX3 TX3 0 ∈ GL := GL_1 (List.mem_of_getElem? (i := 193) rfl) rfl
theorem glX3_1 : u_lay RX3 TX3 1 ∈ GL := GL_1 (List.mem_of_getElem? (i := 195) rfl) rfl
theorem glX3_2 : u_lay RX3 TX3 2 ∈ GL := GL_1 (List.mem_of_getElem? (i := 197) rfl) rfl
theorem glX3_3 : u_lay RX3 TX3 3 ∈ GL := GL_1 (List.mem_of_getElem? (i := 199) rfl) rfl
theorem glX3_4 : u_lay RX3 TX3 4 ∈ GL := GL_1 (List.mem_of_getElem? (i := 201) rfl) rfl
theorem glX3_5 : u_lay RX3 TX3 5 ∈ GL := GL_1 (List.mem_of_getElem? (i := 203) rfl) rfl
theorem glX3_6 : u_lay RX3 TX3 6 ∈ GL := GL_1 (List.mem_of_getElem? (i := 205) rfl) rfl
theorem inX3 : ∀ w ∈ u_ws RX3 TX3 7, w ∈ GL := List.forall_mem_cons.mpr ⟨glX3_0, List.forall_mem_cons.mpr ⟨glX3_1, List.forall_mem_cons.mpr ⟨glX3_2, List.forall_mem_cons.mpr ⟨glX3_3, List.forall_mem_cons.mpr ⟨glX3_4, List.forall_mem_cons.mpr ⟨glX3_5, List.forall_mem_cons.mpr ⟨glX3_6, fun _ h => absurd h List.not_mem_nil⟩⟩⟩⟩⟩⟩⟩
theorem glX4_0 : u_lay RX4 TX4 0 ∈ GL := GL_1 (List.mem_of_getElem? (i := 172) rfl) rfl
theorem glX4_1 : u_lay RX4 TX4 1 ∈ GL := GL_1 (List.mem_of_getElem? (i := 174) rfl) rfl
theorem glX4_2 : u_lay RX4 TX4 2 ∈ GL := GL_1 (List.mem_of_getElem? (i := 176) rfl) rfl
theorem inX4 : ∀ w ∈ u_ws RX4 TX4 3, w ∈ GL := List.forall_mem_cons.mpr ⟨glX4_0, List.forall_mem_cons.mpr ⟨glX4_1, List.forall_mem_cons.mpr ⟨glX4_2, fun _ h => absurd h List.not_mem_nil⟩⟩⟩
theorem glX5_0 : u_lay RX5 TX5 0 ∈ GL := GL_2 (List.mem_of_getElem? (i := 142) rfl) rfl
theorem glX5_1 : u_lay RX5 TX5 1 ∈ GL := GL_2 (List.mem_of_getElem? (i := 144) rfl) rfl
theorem glX5_2 : u_lay RX5 TX5 2 ∈ GL := GL_2 (List.mem_of_getElem? (i := 146) rfl) rfl
theorem glX5_3 : u_lay RX5 TX5 3 ∈ GL := GL_2 (List.mem_of_getElem? (i := 148) rfl) rfl
theorem glX5_4 : u_lay RX5 TX5 4 ∈ GL := GL_2 (List.mem_of_getElem? (i := 150) rfl) rfl
theorem glX5_5 : u_lay RX5 TX5 5 ∈ GL := GL_2 (List.mem_of_getElem? (i := 152) rfl) rfl
theorem glX5_6 : u_lay RX5 TX5 6 ∈ GL := GL_2 (List.mem_of_getElem? (i := 154) rfl) rfl
theorem glX5_7 : u_lay RX5 TX5 7 ∈ GL := GL_2 (List.mem_of_getElem? (i := 156) rfl) rfl
theorem inX5 : ∀ w ∈ u_ws RX5 TX5 8, w ∈ GL := List.forall_mem_cons.mpr ⟨glX5_0, List.forall_mem_cons.mpr ⟨glX5_1, List.forall_mem_cons.mpr ⟨glX5_2, List.forall_mem_cons.mpr ⟨glX5_3, List.forall_mem_cons.mpr ⟨glX5_4, List.forall_mem_cons.mpr ⟨glX5_5, List.forall_mem_cons.mpr ⟨glX5_6, List.forall_mem_cons.mpr ⟨glX5_7, fun _ h => absurd h List.not_mem_nil⟩⟩⟩⟩⟩⟩⟩⟩
theorem glX6_0 : u_lay RX6 TX6 0 ∈ GL := GL_1 (List.mem_of_getElem? (i := 220) rfl) rfl
theorem glX6_1 : u_lay RX6 TX6 1 ∈ GL := GL_1 (List.mem_of_getElem? (i := 222) rfl) rfl
theorem glX6_2 : u_lay RX6 TX6 2 ∈ GL := GL_1 (List.mem_of_getElem? (i := 224) rfl) rfl
theorem inX6 : ∀ w ∈ u_ws RX6 TX6 3, w ∈ GL := List.forall_mem_cons.mpr ⟨glX6_0, List.forall_mem_cons.mpr ⟨glX6_1, List.forall_mem_cons.mpr ⟨glX6_2, fun _ h => absurd h List.not_mem_nil⟩⟩⟩
theorem glX7_0 : u_lay RX7 TX7 0 ∈ GL := GL_1 (List.mem_of_getElem? (i := 63) rfl) rfl
theorem glX7_1 : u_lay RX7 TX7 1 ∈ GL := GL_1 (List.mem_of_getElem? (i := 65) rfl) rfl
theorem glX7_2 : u_lay RX7 TX7 2 ∈ GL := GL_1 (List.mem_of_getElem? (i := 67) rfl) rfl
theorem glX7_3 : u_lay RX7 TX7 3 ∈ GL := GL_1 (List.mem_of_getElem? (i := 69) rfl) rfl
theorem glX7_4 : u_lay RX7 TX7 4 ∈ GL := GL_1 (List.mem_of_getElem? (i := 71) rfl) rfl
theorem inX7 : ∀ w ∈ u_ws RX7 TX7 5, w ∈ GL := List.forall_mem_cons.mpr ⟨glX7_0, List.forall_mem_cons.mpr ⟨glX7_1, List.forall_mem_cons.mpr ⟨glX7_2, List.forall_mem_cons.mpr ⟨glX7_3, List.forall_mem_cons.mpr ⟨glX7_4, fun _ h => absurd h List.not_mem_nil⟩⟩⟩⟩⟩
theorem glX8_0 : u_lay RX8 TX8 0 ∈ GL := GL_1 (List.mem_of_getElem? (i := 114) rfl) rfl
theorem glX8_1 : u_lay RX8 TX8 1 ∈ GL := GL_1 (List.mem_of_getElem? (i := 116) rfl) rfl
theorem glX8_2 : u_lay RX8 TX8 2 ∈ GL := GL_1 (List.mem_of_getElem? (i := 118) rfl) rfl
theorem inX8 : ∀ w ∈ u_ws RX8 TX8 3, w ∈ GL := List.forall_mem_cons.mpr ⟨glX8_0, List.forall_mem_cons.mpr ⟨glX8_1, List.forall_mem_cons.mpr ⟨glX8_2, fun _ h => absurd h List.not_mem_nil⟩⟩⟩
theorem glX9_0 : u_lay RX9 TX9 0 ∈ GL := GL_2 (List.mem_of_getElem? (i := 1) rfl) rfl
theorem glX9_1 : u_lay RX9 TX9 1 ∈ GL := GL_2 (List.mem_of_getElem? (i := 3) rfl) rfl
theorem glX9_2 : u_lay RX9 TX9 2 ∈ GL := GL_2 (List.mem_of_getElem? (i := 5) rfl) rfl
theorem glX9_3 : u_lay RX9 TX9 3 ∈ GL := GL_2 (List.mem_of_getElem? (i := 7) rfl) rfl
theorem inX9 : ∀ w ∈ u_ws RX9 TX9 4, w ∈ GL := List.forall_mem_cons.mpr ⟨glX9_0, List.forall_mem_cons.mpr ⟨glX9_1, List.forall_mem_cons.mpr ⟨glX9_2, List.forall_mem_cons.mpr ⟨glX9_3, fun _ h => absurd h List.not_mem_nil⟩⟩⟩⟩
theorem glX10_0 : u_lay RX10 TX10 0 ∈ GL := GL_2 (List.mem_of_getElem? (i := 93) rfl) rfl
theorem glX10_1 : u_lay RX10 TX10 1 ∈ GL := GL_2 (List.mem_of_getElem? (i := 95) rfl) rfl
theorem glX10_2 : u_lay RX10 TX10 2 ∈ GL := GL_2 (List.mem_of_getElem? (i := 97) rfl) rfl
theorem glX10_3 : u_lay RX10 TX10 3 ∈ GL := GL_2 (List.mem_of_getElem? (i := 99) rfl) rfl
theorem glX10_4 : u_lay RX10 TX10 4 ∈ GL := GL_2 (List.mem_of_getElem? (i := 101) rfl) rfl
theorem glX10_5 : u_lay RX10 TX10 5 ∈ GL := GL_2 (List.mem_of_getElem? (i := 103) rfl) rfl
theorem glX10_6 : u_lay RX10 TX10 6 ∈ GL := GL_2 (List.mem_of_getElem? (i := 105) rfl) rfl
theorem glX10_7 : u_lay RX10 TX10 7 ∈ GL := GL_2 (List.mem_of_getElem? (i := 107) rfl) rfl
theorem glX10_8 : u_lay RX10 TX10 8 ∈ GL := GL_2 (List.mem_of_getElem? (i := 109) rfl) rfl
theorem glX10_9 : u_lay RX10 TX10 9 ∈ GL := GL_2 (List.mem_of_getElem? (i := 111) rfl) rfl
theorem glX10_10 : u_lay RX10 TX10 10 ∈ GL := GL_2 (List.mem_of_getElem? (i := 113) rfl) rfl
theorem glX10_11 : u_lay RX10 TX10 11 ∈ GL := GL_2 (List.mem_of_getElem? (i := 115) rfl) rfl
theorem glX10_12 : u_lay RX10 TX10 12 ∈ GL := GL_2 (List.mem_of_getElem? (i := 117) rfl) rfl
theorem glX10_13 : u_lay RX10 TX10 13 ∈ GL := GL_2 (List.mem_of_getElem? (i := 119) rfl) rfl
theorem inX10 : ∀ w ∈ u_ws RX10 TX10 14, w ∈ GL := List.forall_mem_cons.mpr ⟨glX10_0, List.forall_mem_cons.mpr ⟨glX10_1, List.forall_mem_cons.mpr ⟨glX10_2, List.forall_mem_cons.mpr ⟨glX10_3, List.forall_mem_cons.mpr ⟨glX10_4, List.forall_mem_cons.mpr ⟨glX10_5, List.forall_mem_cons.mpr ⟨glX10_6, List.forall_mem_cons.mpr ⟨glX10_7, List.forall_mem_cons.mpr ⟨glX10_8, List.forall_mem_cons.mpr ⟨glX10_9, List.forall_mem_cons.mpr ⟨glX10_10, List.forall_mem_cons.mpr ⟨glX10_11, List.forall_mem_cons.mpr ⟨glX10_12, List.forall_mem_cons.mpr ⟨glX10_13, fun _ h => absurd h List.not_mem_nil⟩⟩⟩⟩⟩⟩⟩⟩⟩⟩⟩⟩⟩⟩
theorem glX11_0 : u_lay RX11 TX11 0 ∈ GL := GL_2 (List.mem_of_getElem? (i := 195) rfl) rfl
theorem glX11_1 : u_lay RX11 TX11 1 ∈ GL := GL_2 (List.mem_of_getElem? (i := 197) rfl) rfl
theorem glX11_2 : u_lay RX11 TX11 2 ∈ GL := GL_2 (List.mem_of_getElem? (i := 199) rfl) rfl
theorem glX11_3 : u_lay RX11 TX11 3 ∈ GL := GL_2 (List.mem_of_getElem? (i := 201) rfl) rfl
theorem glX11_4 : u_lay RX11 TX11 4 ∈ GL := GL_2 (List.mem_of_getElem? (i := 203) rfl) rfl
theorem glX11_5 : u_lay RX11 TX11 5 ∈ GL := GL_2 (List.mem_of_getElem? (i := 205) rfl) rfl
theorem glX11_6 : u_lay RX11 TX11 6 ∈ GL := GL_2 (List.mem_of_getElem? (i := 207) rfl) rfl
theorem glX11_7 : u_lay RX11 TX11 7 ∈ GL := GL_2 (List.mem_of_getElem? (i := 209) rfl) rfl
theorem inX11 : ∀ w ∈ u_ws RX11 TX11 8, w ∈ GL := List.forall_mem_cons.mpr ⟨glX11_0, List.forall_mem_cons.mpr ⟨glX11_1, List.forall_mem_cons.mpr ⟨glX11_2, List.forall_mem_cons.mpr ⟨glX11_3, List.forall_mem_cons.mpr ⟨glX11_4, List.forall_mem_cons.mpr ⟨glX11_5, List.forall_mem_cons.mpr ⟨glX11_6, List.forall_mem_cons.mpr ⟨glX11_7, fun _ h => absurd h List.not_mem_nil⟩⟩⟩⟩⟩⟩⟩⟩
theorem glX12_0 : u_lay RX12 TX12 0 ∈ GL := GL_5 (List.mem_of_getElem? (i := 137) rfl) rfl
theorem glX12_1 : u_lay RX12 TX12 1 ∈ GL := GL_5 (List.mem_of_getElem? (i := 139) rfl) rfl
theorem glX12_2 : u_lay RX12 TX12 2 ∈ GL := GL_5 (List.mem_of_getElem? (i := 141) rfl) rfl
theorem glX12_3 : u_lay RX12 TX12 3 ∈ GL := GL_5 (List.mem_of_getElem? (i := 143) rfl) rfl
theorem glX12_4 : u_lay RX12 TX12 4 ∈ GL := GL_5 (List.mem_of_getElem? (i := 145) rfl) rfl
theorem glX12_5 : u_lay RX12 TX12 5 ∈ GL := GL_5 (List.mem_of_getElem? (i := 147) rfl) rfl
theorem glX12_6 : u_lay RX12 TX12 6 ∈ GL := GL_5 (List.mem_of_getElem? (i := 149) rfl) rfl
theorem glX12_7 : u_lay RX12 TX12 7 ∈ GL := GL_5 (List.mem_of_getElem? (i := 151) rfl) rfl
theorem glX12_8 : u_lay RX12 TX12 8 ∈ GL := GL_5 (List.mem_of_getElem? (i := 153) rfl) rfl
theorem glX12_9 : u_lay RX12 TX12 9 ∈ GL := GL_5 (List.mem_of_getElem? (i := 155) rfl) rfl
theorem glX12_10 : u_lay RX12 TX12 10 ∈ GL := GL_5 (List.mem_of_getElem? (i := 157) rfl) rfl
theorem glX12_11 : u_lay RX12 TX12 11 ∈ GL := GL_5 (List.mem_of_getElem? (i := 159) rfl) rfl
theorem glX12_12 : u_lay RX12 TX12 12 ∈ GL := GL_5 (List.mem_of_getElem? (i := 161) rfl) rfl
theorem glX12_13 : u_lay RX12 TX12 13 ∈ GL := GL_5 (List.mem_of_getElem? (i := 163) rfl) rfl
theorem glX12_14 : u_lay RX12 TX12 14 ∈ GL := GL_5 (List.mem_of_getElem? (i := 165) rfl) rfl
theorem glX12_15 : u_lay RX12 TX12 15 ∈ GL := GL_5 (List.mem_of_getElem? (i := 167) rfl) rfl
theorem glX12_16 : u_lay RX12 TX12 16 ∈ GL := GL_5 (List.mem_of_getElem? (i := 169) rfl) rfl
theorem glX12_17 : u_lay RX12 TX12 17 ∈ GL := GL_5 (List.mem_of_getElem? (i := 171) rfl) rfl
theorem glX12_18 : u_lay RX12 TX12 18 ∈ GL := GL_5 (List.mem_of_getElem? (i := 173) rfl) rfl
theorem glX12_19 : u_lay RX12 TX12 19 ∈ GL := GL_5 (List.mem_of_getElem? (i := 175) rfl) rfl
theorem glX12_20 : u_lay RX12 TX12 20 ∈ GL := GL_5 (List.mem_of_getElem? (i := 177) rfl) rfl
theorem glX12_21 : u_lay RX12 TX12 21 ∈ GL := GL_5 (List.mem_of_getElem? (i := 179) rfl) rfl
theorem inX12 : ∀ w ∈ u_ws RX12 TX12 22, w ∈ GL := List.forall_mem_cons.mpr ⟨glX12_0, List.forall_mem_cons.mpr ⟨glX12_1, List.forall_mem_cons.mpr ⟨glX12_2, List.forall_mem_cons.mpr ⟨glX12_3, List.forall_mem_cons.mpr ⟨glX12_4, List.forall_mem_cons.mpr ⟨glX12_5, List.forall_mem_cons.mpr ⟨glX12_6, List.forall_mem_cons.mpr ⟨glX12_7, List.forall_mem_cons.mpr ⟨glX12_8, List.forall_mem_cons.mpr ⟨glX12_9, List.forall_mem_cons.mpr ⟨glX12_10, List.forall_mem_cons.mpr ⟨glX12_11, List.forall_mem_cons.mpr ⟨glX12_12, List.forall_mem_cons.mpr ⟨glX12_13, List.forall_mem_cons.mpr ⟨glX12_14, List.forall_mem_cons.mpr ⟨glX12_15, List.forall_mem_cons.mpr ⟨glX12_16, List.forall_mem_cons.mpr ⟨glX12_17, List.forall_mem_cons.mpr ⟨glX12_18, List.forall_mem_cons.mpr ⟨glX12_19, List.forall_mem_cons.mpr ⟨glX12_20, List.forall_mem_cons.mpr ⟨glX12_21, fun _ h => absurd h List.not_mem_nil⟩⟩⟩⟩⟩⟩⟩⟩⟩⟩⟩⟩⟩⟩⟩⟩⟩⟩⟩⟩⟩⟩
theorem gw_3_74 : Cond.fieldLink RJ0 1053 "jdk/internal/util/Preconditions" "SIOOBE_FORMATTER" "Ljava/util/function/BiFunction;" ∈ GL := GL_3 (List.mem_of_getElem? (i := 74) rfl) rfl
theorem gw_3_76 : Cond.methodLink RJ0 1059 yJ3_checkIndex_8e157 ∈ GL := GL_3 (List.mem_of_getElem? (i := 76) rfl) rfl
theorem gw_3_77 : Cond.static yJ3_checkIndex_8e157 ∈ GL := GL_3 (List.mem_of_getElem? (i := 77) rfl) rfl
theorem gw_1_19 : Cond.initialized RJ3 ∈ GL := GL_1 (List.mem_of_getElem? (i := 19) rfl) rfl
theorem gw_3_78 : Cond.code yJ3_checkIndex_8e157 cJ3_checkIndex_8e157 3 (some .int) ∈ GL := GL_3 (List.mem_of_getElem? (i := 78) rfl) rfl
theorem gw_3_71 : Cond.methodLink RJ1 9 yJ0_checkIndex_df160 ∈ GL := GL_3 (List.mem_of_getElem? (i := 71) rfl) rfl
theorem gw_3_72 : Cond.static yJ0_checkIndex_df160 ∈ GL := GL_3 (List.mem_of_getElem? (i := 72) rfl) rfl
theorem gw_1_17 : Cond.initialized RJ0 ∈ GL := GL_1 (List.mem_of_getElem? (i := 17) rfl) rfl
theorem gw_3_73 : Cond.code yJ0_checkIndex_df160 cJ0_checkIndex_df160 2 none ∈ GL := GL_3 (List.mem_of_getElem? (i := 73) rfl) rfl
theorem gw_3_57 : Cond.fieldLink RJ0 38 "java/lang/String" "COMPACT_STRINGS" "Z" ∈ GL := GL_3 (List.mem_of_getElem? (i := 57) rfl) rfl
theorem gw_7_84 : Cond.fieldLink RJ0 15 "java/lang/String" "coder" "B" ∈ GL := GL_7 (List.mem_of_getElem? (i := 84) rfl) rfl
theorem gw_7_83 : Cond.fieldLink RJ0 9 "java/lang/String" "value" "[B" ∈ GL := GL_7 (List.mem_of_getElem? (i := 83) rfl) rfl
theorem gw_3_53 : Cond.methodLink RJ0 335 yJ0_coder_7d493 ∈ GL := GL_3 (List.mem_of_getElem? (i := 53) rfl) rfl
theorem gw_3_54 : Cond.instanceMethod yJ0_coder_7d493 ∈ GL := GL_3 (List.mem_of_getElem? (i := 54) rfl) rfl
theorem gw_3_55 : Cond.selects RJ0 yJ0_coder_7d493 yJ0_coder_7d493 ∈ GL := GL_3 (List.mem_of_getElem? (i := 55) rfl) rfl
theorem gw_3_56 : Cond.code yJ0_coder_7d493 cJ0_coder_7d493 1 (some .byte) ∈ GL := GL_3 (List.mem_of_getElem? (i := 56) rfl) rfl
theorem gw_3_64 : Cond.methodLink RJ0 492 yJ0_isLatin1_aae02 ∈ GL := GL_3 (List.mem_of_getElem? (i := 64) rfl) rfl
theorem gw_3_65 : Cond.instanceMethod yJ0_isLatin1_aae02 ∈ GL := GL_3 (List.mem_of_getElem? (i := 65) rfl) rfl
theorem gw_3_66 : Cond.selects RJ0 yJ0_isLatin1_aae02 yJ0_isLatin1_aae02 ∈ GL := GL_3 (List.mem_of_getElem? (i := 66) rfl) rfl
theorem gw_3_67 : Cond.code yJ0_isLatin1_aae02 cJ0_isLatin1_aae02 1 (some .boolean) ∈ GL := GL_3 (List.mem_of_getElem? (i := 67) rfl) rfl
theorem gw_3_68 : Cond.methodLink RJ0 495 yJ1_charAt_3b067 ∈ GL := GL_3 (List.mem_of_getElem? (i := 68) rfl) rfl
theorem gw_3_69 : Cond.static yJ1_charAt_3b067 ∈ GL := GL_3 (List.mem_of_getElem? (i := 69) rfl) rfl
theorem gw_1_18 : Cond.initialized RJ1 ∈ GL := GL_1 (List.mem_of_getElem? (i := 18) rfl) rfl
theorem gw_3_70 : Cond.code yJ1_charAt_3b067 cJ1_charAt_3b067 2 (some .char) ∈ GL := GL_3 (List.mem_of_getElem? (i := 70) rfl) rfl
theorem gw_1_33 : Cond.code objectInit ⟨#[0xb1]⟩ 1 none ∈ GL := GL_1 (List.mem_of_getElem? (i := 33) rfl) rfl
theorem gw_1_130 : Cond.fieldLink RX1 13 "NoiseWatch$Counts" "last" "I" ∈ GL := GL_1 (List.mem_of_getElem? (i := 130) rfl) rfl
theorem gw_1_131 : Cond.fieldLink RX1 16 "NoiseWatch$Counts" "inWindow" "I" ∈ GL := GL_1 (List.mem_of_getElem? (i := 131) rfl) rfl
theorem gw_1_133 : Cond.fieldLink RX1 19 "NoiseWatch$Counts" "first" "I" ∈ GL := GL_1 (List.mem_of_getElem? (i := 133) rfl) rfl
theorem gw_1_134 : Cond.fieldLink RX1 22 "NoiseWatch$Counts" "like" "I" ∈ GL := GL_1 (List.mem_of_getElem? (i := 134) rfl) rfl
theorem gw_1_137 : Cond.fieldLink RX1 25 "NoiseWatch$Counts" "unlike" "I" ∈ GL := GL_1 (List.mem_of_getElem? (i := 137) rfl) rfl
theorem gw_1_127 : Cond.fieldLink RX1 7 "NoiseWatch$Counts" "alike" "I" ∈ GL := GL_1 (List.mem_of_getElem? (i := 127) rfl) rfl
theorem gw_1_32 : Cond.instanceMethod objectInit ∈ GL := GL_1 (List.mem_of_getElem? (i := 32) rfl) rfl
theorem gw_1_126 : Cond.methodLink RX1 1 objectInit ∈ GL := GL_1 (List.mem_of_getElem? (i := 126) rfl) rfl
theorem gw_1_103 : Cond.arrayClass .long ∈ GL := GL_1 (List.mem_of_getElem? (i := 103) rfl) rfl
theorem gw_1_82 : Cond.fieldLink RX2 15 "NoiseWatch$Odds" "tries" "I" ∈ GL := GL_1 (List.mem_of_getElem? (i := 82) rfl) rfl
theorem gw_1_83 : Cond.fieldLink RX2 19 "NoiseWatch$Odds" "repeats" "I" ∈ GL := GL_1 (List.mem_of_getElem? (i := 83) rfl) rfl
theorem gw_1_86 : Cond.fieldLink RX2 22 "NoiseWatch$Odds" "proportion" "I" ∈ GL := GL_1 (List.mem_of_getElem? (i := 86) rfl) rfl
theorem gw_1_89 : Cond.fieldLink RX2 25 "NoiseWatch$Odds" "changes" "I" ∈ GL := GL_1 (List.mem_of_getElem? (i := 89) rfl) rfl
theorem gw_1_81 : Cond.fieldLink RX2 9 "NoiseWatch$Odds" "tails" "[J" ∈ GL := GL_1 (List.mem_of_getElem? (i := 81) rfl) rfl
theorem gw_1_80 : Cond.methodLink RX2 3 objectInit ∈ GL := GL_1 (List.mem_of_getElem? (i := 80) rfl) rfl
theorem gw_1_74 : Cond.arrayClass .int ∈ GL := GL_1 (List.mem_of_getElem? (i := 74) rfl) rfl
theorem gw_1_165 : Cond.fieldLink RX4 11 "NoiseWatch$Queue" "bits" "[I" ∈ GL := GL_1 (List.mem_of_getElem? (i := 165) rfl) rfl
theorem gw_1_166 : Cond.fieldLink RX4 15 "NoiseWatch$Queue" "head" "I" ∈ GL := GL_1 (List.mem_of_getElem? (i := 166) rfl) rfl
theorem gw_1_167 : Cond.fieldLink RX4 19 "NoiseWatch$Queue" "size" "I" ∈ GL := GL_1 (List.mem_of_getElem? (i := 167) rfl) rfl
theorem gw_1_164 : Cond.methodLink RX4 3 objectInit ∈ GL := GL_1 (List.mem_of_getElem? (i := 164) rfl) rfl
theorem gw_1_54 : Cond.classLink RX7 14 "[I" ∈ GL := GL_1 (List.mem_of_getElem? (i := 54) rfl) rfl
theorem gw_1_55 : Cond.fieldLink RX7 18 "NoiseWatch$Settings" "values" "[I" ∈ GL := GL_1 (List.mem_of_getElem? (i := 55) rfl) rfl
theorem gw_1_56 : Cond.fieldLink RX7 23 "NoiseWatch$Settings" "stuckFrom" "[I" ∈ GL := GL_1 (List.mem_of_getElem? (i := 56) rfl) rfl
theorem gw_1_57 : Cond.fieldLink RX7 26 "NoiseWatch$Settings" "stuckTo" "[I" ∈ GL := GL_1 (List.mem_of_getElem? (i := 57) rfl) rfl
theorem gw_1_58 : Cond.fieldLink RX7 29 "NoiseWatch$Settings" "stuckValue" "[I" ∈ GL := GL_1 (List.mem_of_getElem? (i := 58) rfl) rfl
theorem gw_1_59 : Cond.fieldLink RX7 32 "NoiseWatch$Settings" "stuckCount" "I" ∈ GL := GL_1 (List.mem_of_getElem? (i := 59) rfl) rfl
theorem gw_1_51 : Cond.instanceMethod ⟨"java/lang/Object", "clone", "()Ljava/lang/Object;"⟩ ∈ GL := GL_1 (List.mem_of_getElem? (i := 51) rfl) rfl
theorem gw_1_48 : Cond.methodLink RX7 13 ⟨"[I", "clone", "()Ljava/lang/Object;"⟩ ∈ GL := GL_1 (List.mem_of_getElem? (i := 48) rfl) rfl
theorem gw_1_45 : Cond.methodLink RX7 3 objectInit ∈ GL := GL_1 (List.mem_of_getElem? (i := 45) rfl) rfl
theorem gw_1_50 : Cond.native ⟨"java/lang/Object", "clone", "()Ljava/lang/Object;"⟩ ∈ GL := GL_1 (List.mem_of_getElem? (i := 50) rfl) rfl
theorem gw_1_49 : Cond.sameMethod "[I" "java/lang/Object" "clone" "()Ljava/lang/Object;" ∈ GL := GL_1 (List.mem_of_getElem? (i := 49) rfl) rfl
theorem gw_1_52 : Cond.selects "[I" ⟨"[I", "clone", "()Ljava/lang/Object;"⟩ ⟨"java/lang/Object", "clone", "()Ljava/lang/Object;"⟩ ∈ GL := GL_1 (List.mem_of_getElem? (i := 52) rfl) rfl
theorem gw_1_111 : Cond.fieldLink RX8 15 "NoiseWatch$Source" "drawn" "I" ∈ GL := GL_1 (List.mem_of_getElem? (i := 111) rfl) rfl
theorem gw_1_113 : Cond.fieldLink RX8 18 "NoiseWatch$Source" "last" "I" ∈ GL := GL_1 (List.mem_of_getElem? (i := 113) rfl) rfl
theorem gw_1_110 : Cond.fieldLink RX8 9 "NoiseWatch$Source" "x" "I" ∈ GL := GL_1 (List.mem_of_getElem? (i := 110) rfl) rfl
theorem gw_1_109 : Cond.methodLink RX8 3 objectInit ∈ GL := GL_1 (List.mem_of_getElem? (i := 109) rfl) rfl
theorem gw_1_234 : Cond.fieldLink RX9 15 "NoiseWatch$Text" "size" "I" ∈ GL := GL_1 (List.mem_of_getElem? (i := 234) rfl) rfl
theorem gw_1_237 : Cond.fieldLink RX9 19 "NoiseWatch$Text" "fault" "I" ∈ GL := GL_1 (List.mem_of_getElem? (i := 237) rfl) rfl
theorem gw_1_239 : Cond.fieldLink RX9 22 "NoiseWatch$Text" "place" "I" ∈ GL := GL_1 (List.mem_of_getElem? (i := 239) rfl) rfl
theorem gw_1_233 : Cond.fieldLink RX9 9 "NoiseWatch$Text" "bytes" "[I" ∈ GL := GL_1 (List.mem_of_getElem? (i := 233) rfl) rfl
theorem gw_1_232 : Cond.methodLink RX9 3 objectInit ∈ GL := GL_1 (List.mem_of_getElem? (i := 232) rfl) rfl
theorem gw_2_166 : Cond.fieldLink RX0 15 "NoiseWatch$Bounds" "seen" "[I" ∈ GL := GL_2 (List.mem_of_getElem? (i := 166) rfl) rfl
theorem gw_2_167 : Cond.fieldLink RX0 18 "NoiseWatch$Bounds" "size" "I" ∈ GL := GL_2 (List.mem_of_getElem? (i := 167) rfl) rfl
theorem gw_2_168 : Cond.fieldLink RX0 22 "NoiseWatch$Bounds" "above" "I" ∈ GL := GL_2 (List.mem_of_getElem? (i := 168) rfl) rfl
theorem gw_2_170 : Cond.fieldLink RX0 25 "NoiseWatch$Bounds" "below" "I" ∈ GL := GL_2 (List.mem_of_getElem? (i := 170) rfl) rfl
theorem gw_2_165 : Cond.fieldLink RX0 9 "NoiseWatch$Bounds" "latest" "[I" ∈ GL := GL_2 (List.mem_of_getElem? (i := 165) rfl) rfl
theorem gw_2_164 : Cond.methodLink RX0 3 objectInit ∈ GL := GL_2 (List.mem_of_getElem? (i := 164) rfl) rfl
theorem gw_1_217 : Cond.fieldLink RX6 15 "NoiseWatch$Rows" "lengths" "[I" ∈ GL := GL_1 (List.mem_of_getElem? (i := 217) rfl) rfl
theorem gw_1_218 : Cond.fieldLink RX6 18 "NoiseWatch$Rows" "size" "I" ∈ GL := GL_1 (List.mem_of_getElem? (i := 218) rfl) rfl
theorem gw_1_216 : Cond.fieldLink RX6 9 "NoiseWatch$Rows" "samples" "[I" ∈ GL := GL_1 (List.mem_of_getElem? (i := 216) rfl) rfl
theorem gw_1_215 : Cond.methodLink RX6 3 objectInit ∈ GL := GL_1 (List.mem_of_getElem? (i := 215) rfl) rfl
theorem gw_1_159 : Cond.classLink RX3 9 RX4 ∈ GL := GL_1 (List.mem_of_getElem? (i := 159) rfl) rfl
theorem gw_1_163 : Cond.code yX4_init cX4_init 1 none ∈ GL := GL_1 (List.mem_of_getElem? (i := 163) rfl) rfl
theorem gw_1_179 : Cond.fieldLink RX3 12 "NoiseWatch$Pool" "bits" "LNoiseWatch$Queue;" ∈ GL := GL_1 (List.mem_of_getElem? (i := 179) rfl) rfl
theorem gw_1_182 : Cond.fieldLink RX3 18 "NoiseWatch$Pool" "register" "I" ∈ GL := GL_1 (List.mem_of_getElem? (i := 182) rfl) rfl
theorem gw_1_183 : Cond.fieldLink RX3 22 "NoiseWatch$Pool" "inBlock" "I" ∈ GL := GL_1 (List.mem_of_getElem? (i := 183) rfl) rfl
theorem gw_1_185 : Cond.fieldLink RX3 25 "NoiseWatch$Pool" "came" "I" ∈ GL := GL_1 (List.mem_of_getElem? (i := 185) rfl) rfl
theorem gw_1_187 : Cond.fieldLink RX3 28 "NoiseWatch$Pool" "wasted" "I" ∈ GL := GL_1 (List.mem_of_getElem? (i := 187) rfl) rfl
theorem gw_1_189 : Cond.fieldLink RX3 31 "NoiseWatch$Pool" "taken" "I" ∈ GL := GL_1 (List.mem_of_getElem? (i := 189) rfl) rfl
theorem gw_1_191 : Cond.fieldLink RX3 34 "NoiseWatch$Pool" "gone" "I" ∈ GL := GL_1 (List.mem_of_getElem? (i := 191) rfl) rfl
theorem gw_1_8 : Cond.initialized RX4 ∈ GL := GL_1 (List.mem_of_getElem? (i := 8) rfl) rfl
theorem gw_1_162 : Cond.instanceMethod yX4_init ∈ GL := GL_1 (List.mem_of_getElem? (i := 162) rfl) rfl
theorem gw_1_160 : Cond.instantiable RX4 3 ∈ GL := GL_1 (List.mem_of_getElem? (i := 160) rfl) rfl
theorem gw_1_158 : Cond.methodLink RX3 3 objectInit ∈ GL := GL_1 (List.mem_of_getElem? (i := 158) rfl) rfl
theorem gw_2_129 : Cond.classLink RX5 9 RX7 ∈ GL := GL_2 (List.mem_of_getElem? (i := 129) rfl) rfl
theorem gw_1_44 : Cond.code yX7_init cX7_init 1 none ∈ GL := GL_1 (List.mem_of_getElem? (i := 44) rfl) rfl
theorem gw_2_131 : Cond.fieldLink RX5 12 "NoiseWatch$Reader" "draft" "LNoiseWatch$Settings;" ∈ GL := GL_2 (List.mem_of_getElem? (i := 131) rfl) rfl
theorem gw_2_133 : Cond.fieldLink RX5 18 "NoiseWatch$Reader" "numbers" "[I" ∈ GL := GL_2 (List.mem_of_getElem? (i := 133) rfl) rfl
theorem gw_2_134 : Cond.fieldLink RX5 22 "NoiseWatch$Reader" "at" "I" ∈ GL := GL_2 (List.mem_of_getElem? (i := 134) rfl) rfl
theorem gw_2_135 : Cond.fieldLink RX5 26 "NoiseWatch$Reader" "kind" "I" ∈ GL := GL_2 (List.mem_of_getElem? (i := 135) rfl) rfl
theorem gw_2_136 : Cond.fieldLink RX5 29 "NoiseWatch$Reader" "from" "I" ∈ GL := GL_2 (List.mem_of_getElem? (i := 136) rfl) rfl
theorem gw_2_137 : Cond.fieldLink RX5 32 "NoiseWatch$Reader" "number" "I" ∈ GL := GL_2 (List.mem_of_getElem? (i := 137) rfl) rfl
theorem gw_2_138 : Cond.fieldLink RX5 35 "NoiseWatch$Reader" "fault" "I" ∈ GL := GL_2 (List.mem_of_getElem? (i := 138) rfl) rfl
theorem gw_2_140 : Cond.fieldLink RX5 38 "NoiseWatch$Reader" "place" "I" ∈ GL := GL_2 (List.mem_of_getElem? (i := 140) rfl) rfl
theorem gw_1_3 : Cond.initialized RX7 ∈ GL := GL_1 (List.mem_of_getElem? (i := 3) rfl) rfl
theorem gw_1_43 : Cond.instanceMethod yX7_init ∈ GL := GL_1 (List.mem_of_getElem? (i := 43) rfl) rfl
theorem gw_1_41 : Cond.instantiable RX7 5 ∈ GL := GL_1 (List.mem_of_getElem? (i := 41) rfl) rfl
theorem gw_2_128 : Cond.methodLink RX5 3 objectInit ∈ GL := GL_2 (List.mem_of_getElem? (i := 128) rfl) rfl
theorem gw_2_34 : Cond.code Lib.Math.max.name Lib.Math.max.code 2 (some .int) ∈ GL := GL_2 (List.mem_of_getElem? (i := 34) rfl) rfl
theorem gw_2_31 : Cond.code Lib.Math.min.name Lib.Math.min.code 2 (some .int) ∈ GL := GL_2 (List.mem_of_getElem? (i := 31) rfl) rfl
theorem gw_2_37 : Cond.code yJ7_fill_d0a16 cJ7_fill_d0a16 5 none ∈ GL := GL_2 (List.mem_of_getElem? (i := 37) rfl) rfl
theorem gw_1_11 : Cond.initialized "java/lang/Math" ∈ GL := GL_1 (List.mem_of_getElem? (i := 11) rfl) rfl
theorem gw_1_12 : Cond.initialized RJ7 ∈ GL := GL_1 (List.mem_of_getElem? (i := 12) rfl) rfl
theorem gw_2_29 : Cond.methodLink RX2 28 Lib.Math.min.name ∈ GL := GL_2 (List.mem_of_getElem? (i := 29) rfl) rfl
theorem gw_2_32 : Cond.methodLink RX2 34 Lib.Math.max.name ∈ GL := GL_2 (List.mem_of_getElem? (i := 32) rfl) rfl
theorem gw_2_35 : Cond.methodLink RX2 37 yJ7_fill_d0a16 ∈ GL := GL_2 (List.mem_of_getElem? (i := 35) rfl) rfl
theorem gw_2_33 : Cond.static Lib.Math.max.name ∈ GL := GL_2 (List.mem_of_getElem? (i := 33) rfl) rfl
theorem gw_2_30 : Cond.static Lib.Math.min.name ∈ GL := GL_2 (List.mem_of_getElem? (i := 30) rfl) rfl
theorem gw_2_36 : Cond.static yJ7_fill_d0a16 ∈ GL := GL_2 (List.mem_of_getElem? (i := 36) rfl) rfl
theorem gw_2_28 : Cond.code yX2_fill cX2_fill 5 none ∈ GL := GL_2 (List.mem_of_getElem? (i := 28) rfl) rfl
theorem gw_2_41 : Cond.code yX2_leastBy cX2_leastBy 7 (some .int) ∈ GL := GL_2 (List.mem_of_getElem? (i := 41) rfl) rfl
theorem gw_2_24 : Cond.code yX2_leastRepeats cX2_leastRepeats 6 (some .int) ∈ GL := GL_2 (List.mem_of_getElem? (i := 24) rfl) rfl
theorem gw_1_4 : Cond.initialized RX2 ∈ GL := GL_1 (List.mem_of_getElem? (i := 4) rfl) rfl
theorem gw_2_26 : Cond.instanceMethod yX2_fill ∈ GL := GL_2 (List.mem_of_getElem? (i := 26) rfl) rfl
theorem gw_2_39 : Cond.instanceMethod yX2_leastBy ∈ GL := GL_2 (List.mem_of_getElem? (i := 39) rfl) rfl
theorem gw_2_22 : Cond.methodLink RX2 43 yX2_leastRepeats ∈ GL := GL_2 (List.mem_of_getElem? (i := 22) rfl) rfl
theorem gw_2_25 : Cond.methodLink RX2 46 yX2_fill ∈ GL := GL_2 (List.mem_of_getElem? (i := 25) rfl) rfl
theorem gw_2_38 : Cond.methodLink RX2 49 yX2_leastBy ∈ GL := GL_2 (List.mem_of_getElem? (i := 38) rfl) rfl
theorem gw_2_27 : Cond.selects RX2 yX2_fill yX2_fill ∈ GL := GL_2 (List.mem_of_getElem? (i := 27) rfl) rfl
theorem gw_2_40 : Cond.selects RX2 yX2_leastBy yX2_leastBy ∈ GL := GL_2 (List.mem_of_getElem? (i := 40) rfl) rfl
theorem gw_2_23 : Cond.static yX2_leastRepeats ∈ GL := GL_2 (List.mem_of_getElem? (i := 23) rfl) rfl
theorem gw_2_57 : Cond.code yX4_clear cX4_clear 1 none ∈ GL := GL_2 (List.mem_of_getElem? (i := 57) rfl) rfl
theorem gw_2_55 : Cond.instanceMethod yX4_clear ∈ GL := GL_2 (List.mem_of_getElem? (i := 55) rfl) rfl
theorem gw_2_54 : Cond.methodLink RX3 37 yX4_clear ∈ GL := GL_2 (List.mem_of_getElem? (i := 54) rfl) rfl
theorem gw_2_56 : Cond.selects RX4 yX4_clear yX4_clear ∈ GL := GL_2 (List.mem_of_getElem? (i := 56) rfl) rfl
theorem gw_2_70 : Cond.code yX9_refuse cX9_refuse 3 none ∈ GL := GL_2 (List.mem_of_getElem? (i := 70) rfl) rfl
theorem gw_1_10 : Cond.initialized RX9 ∈ GL := GL_1 (List.mem_of_getElem? (i := 10) rfl) rfl
theorem gw_2_68 : Cond.instanceMethod yX9_refuse ∈ GL := GL_2 (List.mem_of_getElem? (i := 68) rfl) rfl
theorem gw_2_67 : Cond.methodLink RX9 25 yX9_refuse ∈ GL := GL_2 (List.mem_of_getElem? (i := 67) rfl) rfl
theorem gw_2_69 : Cond.selects RX9 yX9_refuse yX9_refuse ∈ GL := GL_2 (List.mem_of_getElem? (i := 69) rfl) rfl
theorem gw_2_49 : Cond.code yX1_clear cX1_clear 1 none ∈ GL := GL_2 (List.mem_of_getElem? (i := 49) rfl) rfl
theorem gw_2_21 : Cond.code yX2_setLimits cX2_setLimits 4 none ∈ GL := GL_2 (List.mem_of_getElem? (i := 21) rfl) rfl
theorem gw_2_53 : Cond.code yX3_begin cX3_begin 1 none ∈ GL := GL_2 (List.mem_of_getElem? (i := 53) rfl) rfl
theorem gw_2_62 : Cond.code yX6_clear cX6_clear 1 none ∈ GL := GL_2 (List.mem_of_getElem? (i := 62) rfl) rfl
theorem gw_2_17 : Cond.code yX7_valueOf cX7_valueOf 2 (some .int) ∈ GL := GL_2 (List.mem_of_getElem? (i := 17) rfl) rfl
theorem gw_2_45 : Cond.code yX8_begin cX8_begin 2 none ∈ GL := GL_2 (List.mem_of_getElem? (i := 45) rfl) rfl
theorem gw_2_66 : Cond.code yX9_begin cX9_begin 1 none ∈ GL := GL_2 (List.mem_of_getElem? (i := 66) rfl) rfl
theorem gw_2_71 : Cond.fieldLink RX10 12 "NoiseWatch$Watch" "settings" "LNoiseWatch$Settings;" ∈ GL := GL_2 (List.mem_of_getElem? (i := 71) rfl) rfl
theorem gw_2_73 : Cond.fieldLink RX10 21 "NoiseWatch$Watch" "limits" "LNoiseWatch$Odds;" ∈ GL := GL_2 (List.mem_of_getElem? (i := 73) rfl) rfl
theorem gw_2_75 : Cond.fieldLink RX10 28 "NoiseWatch$Watch" "source" "LNoiseWatch$Source;" ∈ GL := GL_2 (List.mem_of_getElem? (i := 75) rfl) rfl
theorem gw_2_76 : Cond.fieldLink RX10 35 "NoiseWatch$Watch" "counts" "LNoiseWatch$Counts;" ∈ GL := GL_2 (List.mem_of_getElem? (i := 76) rfl) rfl
theorem gw_2_77 : Cond.fieldLink RX10 42 "NoiseWatch$Watch" "pool" "LNoiseWatch$Pool;" ∈ GL := GL_2 (List.mem_of_getElem? (i := 77) rfl) rfl
theorem gw_2_79 : Cond.fieldLink RX10 49 "NoiseWatch$Watch" "heard" "LNoiseWatch$Queue;" ∈ GL := GL_2 (List.mem_of_getElem? (i := 79) rfl) rfl
theorem gw_2_81 : Cond.fieldLink RX10 56 "NoiseWatch$Watch" "rows" "LNoiseWatch$Rows;" ∈ GL := GL_2 (List.mem_of_getElem? (i := 81) rfl) rfl
theorem gw_2_83 : Cond.fieldLink RX10 63 "NoiseWatch$Watch" "text" "LNoiseWatch$Text;" ∈ GL := GL_2 (List.mem_of_getElem? (i := 83) rfl) rfl
theorem gw_2_85 : Cond.fieldLink RX10 67 "NoiseWatch$Watch" "status" "I" ∈ GL := GL_2 (List.mem_of_getElem? (i := 85) rfl) rfl
theorem gw_2_87 : Cond.fieldLink RX10 71 "NoiseWatch$Watch" "failed" "I" ∈ GL := GL_2 (List.mem_of_getElem? (i := 87) rfl) rfl
theorem gw_2_88 : Cond.fieldLink RX10 74 "NoiseWatch$Watch" "alarms" "I" ∈ GL := GL_2 (List.mem_of_getElem? (i := 88) rfl) rfl
theorem gw_2_89 : Cond.fieldLink RX10 77 "NoiseWatch$Watch" "starts" "I" ∈ GL := GL_2 (List.mem_of_getElem? (i := 89) rfl) rfl
theorem gw_2_91 : Cond.fieldLink RX10 80 "NoiseWatch$Watch" "listened" "I" ∈ GL := GL_2 (List.mem_of_getElem? (i := 91) rfl) rfl
theorem gw_2_92 : Cond.fieldLink RX10 83 "NoiseWatch$Watch" "since" "I" ∈ GL := GL_2 (List.mem_of_getElem? (i := 92) rfl) rfl
theorem gw_1_6 : Cond.initialized RX1 ∈ GL := GL_1 (List.mem_of_getElem? (i := 6) rfl) rfl
theorem gw_1_7 : Cond.initialized RX3 ∈ GL := GL_1 (List.mem_of_getElem? (i := 7) rfl) rfl
theorem gw_1_9 : Cond.initialized RX6 ∈ GL := GL_1 (List.mem_of_getElem? (i := 9) rfl) rfl
theorem gw_1_5 : Cond.initialized RX8 ∈ GL := GL_1 (List.mem_of_getElem? (i := 5) rfl) rfl
theorem gw_2_47 : Cond.instanceMethod yX1_clear ∈ GL := GL_2 (List.mem_of_getElem? (i := 47) rfl) rfl
theorem gw_2_19 : Cond.instanceMethod yX2_setLimits ∈ GL := GL_2 (List.mem_of_getElem? (i := 19) rfl) rfl
theorem gw_2_51 : Cond.instanceMethod yX3_begin ∈ GL := GL_2 (List.mem_of_getElem? (i := 51) rfl) rfl
theorem gw_2_60 : Cond.instanceMethod yX6_clear ∈ GL := GL_2 (List.mem_of_getElem? (i := 60) rfl) rfl
theorem gw_2_15 : Cond.instanceMethod yX7_valueOf ∈ GL := GL_2 (List.mem_of_getElem? (i := 15) rfl) rfl
theorem gw_2_43 : Cond.instanceMethod yX8_begin ∈ GL := GL_2 (List.mem_of_getElem? (i := 43) rfl) rfl
theorem gw_2_64 : Cond.instanceMethod yX9_begin ∈ GL := GL_2 (List.mem_of_getElem? (i := 64) rfl) rfl
theorem gw_2_46 : Cond.methodLink RX10 100 yX1_clear ∈ GL := GL_2 (List.mem_of_getElem? (i := 46) rfl) rfl
theorem gw_2_50 : Cond.methodLink RX10 103 yX3_begin ∈ GL := GL_2 (List.mem_of_getElem? (i := 50) rfl) rfl
theorem gw_2_58 : Cond.methodLink RX10 104 yX4_clear ∈ GL := GL_2 (List.mem_of_getElem? (i := 58) rfl) rfl
theorem gw_2_59 : Cond.methodLink RX10 105 yX6_clear ∈ GL := GL_2 (List.mem_of_getElem? (i := 59) rfl) rfl
theorem gw_2_63 : Cond.methodLink RX10 106 yX9_begin ∈ GL := GL_2 (List.mem_of_getElem? (i := 63) rfl) rfl
theorem gw_2_14 : Cond.methodLink RX10 89 yX7_valueOf ∈ GL := GL_2 (List.mem_of_getElem? (i := 14) rfl) rfl
theorem gw_2_18 : Cond.methodLink RX10 93 yX2_setLimits ∈ GL := GL_2 (List.mem_of_getElem? (i := 18) rfl) rfl
theorem gw_2_42 : Cond.methodLink RX10 97 yX8_begin ∈ GL := GL_2 (List.mem_of_getElem? (i := 42) rfl) rfl
theorem gw_2_48 : Cond.selects RX1 yX1_clear yX1_clear ∈ GL := GL_2 (List.mem_of_getElem? (i := 48) rfl) rfl
theorem gw_2_20 : Cond.selects RX2 yX2_setLimits yX2_setLimits ∈ GL := GL_2 (List.mem_of_getElem? (i := 20) rfl) rfl
theorem gw_2_52 : Cond.selects RX3 yX3_begin yX3_begin ∈ GL := GL_2 (List.mem_of_getElem? (i := 52) rfl) rfl
theorem gw_2_61 : Cond.selects RX6 yX6_clear yX6_clear ∈ GL := GL_2 (List.mem_of_getElem? (i := 61) rfl) rfl
theorem gw_2_16 : Cond.selects RX7 yX7_valueOf yX7_valueOf ∈ GL := GL_2 (List.mem_of_getElem? (i := 16) rfl) rfl
theorem gw_2_44 : Cond.selects RX8 yX8_begin yX8_begin ∈ GL := GL_2 (List.mem_of_getElem? (i := 44) rfl) rfl
theorem gw_2_65 : Cond.selects RX9 yX9_begin yX9_begin ∈ GL := GL_2 (List.mem_of_getElem? (i := 65) rfl) rfl
theorem gw_1_75 : Cond.classLink RX10 18 RX2 ∈ GL := GL_1 (List.mem_of_getElem? (i := 75) rfl) rfl
theorem gw_1_104 : Cond.classLink RX10 25 RX8 ∈ GL := GL_1 (List.mem_of_getElem? (i := 104) rfl) rfl
theorem gw_1_121 : Cond.classLink RX10 32 RX1 ∈ GL := GL_1 (List.mem_of_getElem? (i := 121) rfl) rfl
theorem gw_1_153 : Cond.classLink RX10 39 RX3 ∈ GL := GL_1 (List.mem_of_getElem? (i := 153) rfl) rfl
theorem gw_1_208 : Cond.classLink RX10 46 RX4 ∈ GL := GL_1 (List.mem_of_getElem? (i := 208) rfl) rfl
theorem gw_1_210 : Cond.classLink RX10 53 RX6 ∈ GL := GL_1 (List.mem_of_getElem? (i := 210) rfl) rfl
theorem gw_1_227 : Cond.classLink RX10 60 RX9 ∈ GL := GL_1 (List.mem_of_getElem? (i := 227) rfl) rfl
theorem gw_1_40 : Cond.classLink RX10 9 RX7 ∈ GL := GL_1 (List.mem_of_getElem? (i := 40) rfl) rfl
theorem gw_2_13 : Cond.code yX10_begin cX10_begin 1 none ∈ GL := GL_2 (List.mem_of_getElem? (i := 13) rfl) rfl
theorem gw_1_125 : Cond.code yX1_init cX1_init 1 none ∈ GL := GL_1 (List.mem_of_getElem? (i := 125) rfl) rfl
theorem gw_1_79 : Cond.code yX2_init cX2_init 1 none ∈ GL := GL_1 (List.mem_of_getElem? (i := 79) rfl) rfl
theorem gw_1_157 : Cond.code yX3_init cX3_init 1 none ∈ GL := GL_1 (List.mem_of_getElem? (i := 157) rfl) rfl
theorem gw_1_214 : Cond.code yX6_init cX6_init 1 none ∈ GL := GL_1 (List.mem_of_getElem? (i := 214) rfl) rfl
theorem gw_1_108 : Cond.code yX8_init cX8_init 1 none ∈ GL := GL_1 (List.mem_of_getElem? (i := 108) rfl) rfl
theorem gw_1_231 : Cond.code yX9_init cX9_init 1 none ∈ GL := GL_1 (List.mem_of_getElem? (i := 231) rfl) rfl
theorem gw_1_2 : Cond.initialized RX10 ∈ GL := GL_1 (List.mem_of_getElem? (i := 2) rfl) rfl
theorem gw_2_11 : Cond.instanceMethod yX10_begin ∈ GL := GL_2 (List.mem_of_getElem? (i := 11) rfl) rfl
theorem gw_1_124 : Cond.instanceMethod yX1_init ∈ GL := GL_1 (List.mem_of_getElem? (i := 124) rfl) rfl
theorem gw_1_78 : Cond.instanceMethod yX2_init ∈ GL := GL_1 (List.mem_of_getElem? (i := 78) rfl) rfl
theorem gw_1_156 : Cond.instanceMethod yX3_init ∈ GL := GL_1 (List.mem_of_getElem? (i := 156) rfl) rfl
theorem gw_1_213 : Cond.instanceMethod yX6_init ∈ GL := GL_1 (List.mem_of_getElem? (i := 213) rfl) rfl
theorem gw_1_107 : Cond.instanceMethod yX8_init ∈ GL := GL_1 (List.mem_of_getElem? (i := 107) rfl) rfl
theorem gw_1_230 : Cond.instanceMethod yX9_init ∈ GL := GL_1 (List.mem_of_getElem? (i := 230) rfl) rfl
theorem gw_1_122 : Cond.instantiable RX1 6 ∈ GL := GL_1 (List.mem_of_getElem? (i := 122) rfl) rfl
theorem gw_1_76 : Cond.instantiable RX2 5 ∈ GL := GL_1 (List.mem_of_getElem? (i := 76) rfl) rfl
theorem gw_1_154 : Cond.instantiable RX3 7 ∈ GL := GL_1 (List.mem_of_getElem? (i := 154) rfl) rfl
theorem gw_1_211 : Cond.instantiable RX6 3 ∈ GL := GL_1 (List.mem_of_getElem? (i := 211) rfl) rfl
theorem gw_1_105 : Cond.instantiable RX8 3 ∈ GL := GL_1 (List.mem_of_getElem? (i := 105) rfl) rfl
theorem gw_1_228 : Cond.instantiable RX9 4 ∈ GL := GL_1 (List.mem_of_getElem? (i := 228) rfl) rfl
theorem gw_1_39 : Cond.methodLink RX10 3 objectInit ∈ GL := GL_1 (List.mem_of_getElem? (i := 39) rfl) rfl
theorem gw_2_10 : Cond.methodLink RX10 86 yX10_begin ∈ GL := GL_2 (List.mem_of_getElem? (i := 10) rfl) rfl
theorem gw_2_12 : Cond.selects RX10 yX10_begin yX10_begin ∈ GL := GL_2 (List.mem_of_getElem? (i := 12) rfl) rfl
theorem gw_2_123 : Cond.classLink RX11 23 RX5 ∈ GL := GL_2 (List.mem_of_getElem? (i := 123) rfl) rfl
theorem gw_2_159 : Cond.classLink RX11 30 RX0 ∈ GL := GL_2 (List.mem_of_getElem? (i := 159) rfl) rfl
theorem gw_2_183 : Cond.classLink RX11 37 RX2 ∈ GL := GL_2 (List.mem_of_getElem? (i := 183) rfl) rfl
theorem gw_2_185 : Cond.classLink RX11 44 RX1 ∈ GL := GL_2 (List.mem_of_getElem? (i := 185) rfl) rfl
theorem gw_1_34 : Cond.classLink RX11 7 RX10 ∈ GL := GL_1 (List.mem_of_getElem? (i := 34) rfl) rfl
theorem gw_2_163 : Cond.code yX0_init cX0_init 1 none ∈ GL := GL_2 (List.mem_of_getElem? (i := 163) rfl) rfl
theorem gw_1_38 : Cond.code yX10_init cX10_init 1 none ∈ GL := GL_1 (List.mem_of_getElem? (i := 38) rfl) rfl
theorem gw_2_127 : Cond.code yX5_init cX5_init 1 none ∈ GL := GL_2 (List.mem_of_getElem? (i := 127) rfl) rfl
theorem gw_2_187 : Cond.fieldLink RX11 10 "NoiseWatch" "now" "LNoiseWatch$Watch;" ∈ GL := GL_2 (List.mem_of_getElem? (i := 187) rfl) rfl
theorem gw_2_188 : Cond.fieldLink RX11 16 "NoiseWatch" "trial" "LNoiseWatch$Watch;" ∈ GL := GL_2 (List.mem_of_getElem? (i := 188) rfl) rfl
theorem gw_2_189 : Cond.fieldLink RX11 19 "NoiseWatch" "kept" "[LNoiseWatch$Watch;" ∈ GL := GL_2 (List.mem_of_getElem? (i := 189) rfl) rfl
theorem gw_2_190 : Cond.fieldLink RX11 26 "NoiseWatch" "reader" "LNoiseWatch$Reader;" ∈ GL := GL_2 (List.mem_of_getElem? (i := 190) rfl) rfl
theorem gw_2_191 : Cond.fieldLink RX11 33 "NoiseWatch" "bounds" "LNoiseWatch$Bounds;" ∈ GL := GL_2 (List.mem_of_getElem? (i := 191) rfl) rfl
theorem gw_2_192 : Cond.fieldLink RX11 40 "NoiseWatch" "odds" "LNoiseWatch$Odds;" ∈ GL := GL_2 (List.mem_of_getElem? (i := 192) rfl) rfl
theorem gw_2_193 : Cond.fieldLink RX11 47 "NoiseWatch" "counts" "LNoiseWatch$Counts;" ∈ GL := GL_2 (List.mem_of_getElem? (i := 193) rfl) rfl
theorem gw_2_194 : Cond.fieldLink RX11 51 "NoiseWatch" "peaks" "LNoiseWatch$Counts;" ∈ GL := GL_2 (List.mem_of_getElem? (i := 194) rfl) rfl
theorem gw_1_14 : Cond.initialized RX0 ∈ GL := GL_1 (List.mem_of_getElem? (i := 14) rfl) rfl
theorem gw_1_13 : Cond.initialized RX5 ∈ GL := GL_1 (List.mem_of_getElem? (i := 13) rfl) rfl
theorem gw_2_162 : Cond.instanceMethod yX0_init ∈ GL := GL_2 (List.mem_of_getElem? (i := 162) rfl) rfl
theorem gw_1_37 : Cond.instanceMethod yX10_init ∈ GL := GL_1 (List.mem_of_getElem? (i := 37) rfl) rfl
theorem gw_2_126 : Cond.instanceMethod yX5_init ∈ GL := GL_2 (List.mem_of_getElem? (i := 126) rfl) rfl
theorem gw_2_160 : Cond.instantiable RX0 5 ∈ GL := GL_2 (List.mem_of_getElem? (i := 160) rfl) rfl
theorem gw_1_35 : Cond.instantiable RX10 14 ∈ GL := GL_1 (List.mem_of_getElem? (i := 35) rfl) rfl
theorem gw_2_124 : Cond.instantiable RX5 8 ∈ GL := GL_2 (List.mem_of_getElem? (i := 124) rfl) rfl
theorem gw_1_31 : Cond.methodLink RX11 1 objectInit ∈ GL := GL_1 (List.mem_of_getElem? (i := 31) rfl) rfl
theorem gw_1_36 : Cond.methodLink RX11 9 yX10_init ∈ GL := GL_1 (List.mem_of_getElem? (i := 36) rfl) rfl
theorem gw_5_128 : Cond.fieldLink RX12 21 "NoiseWatchModel" "told" "[I" ∈ GL := GL_5 (List.mem_of_getElem? (i := 128) rfl) rfl
theorem gw_5_119 : Cond.fieldLink RX12 39 "NoiseWatchModel" "reached" "I" ∈ GL := GL_5 (List.mem_of_getElem? (i := 119) rfl) rfl
theorem gw_5_127 : Cond.fieldLink RX12 69 "NoiseWatchModel" "bad" "I" ∈ GL := GL_5 (List.mem_of_getElem? (i := 127) rfl) rfl
theorem gw_5_126 : Cond.fieldLink RX12 72 "NoiseWatchModel" "badAt" "I" ∈ GL := GL_5 (List.mem_of_getElem? (i := 126) rfl) rfl
theorem gw_5_116 : Cond.fieldLink RX12 7 "NoiseWatchModel" "all" "[I" ∈ GL := GL_5 (List.mem_of_getElem? (i := 116) rfl) rfl
theorem gw_5_182 : Cond.arrayClass .boolean ∈ GL := GL_5 (List.mem_of_getElem? (i := 182) rfl) rfl
theorem gw_3_128 : Cond.arrayClass .byte ∈ GL := GL_3 (List.mem_of_getElem? (i := 128) rfl) rfl
theorem gw_5_110 : Cond.code yX12_atFirst cX12_atFirst 2 none ∈ GL := GL_5 (List.mem_of_getElem? (i := 110) rfl) rfl
theorem gw_5_114 : Cond.code yX12_taken cX12_taken 2 none ∈ GL := GL_5 (List.mem_of_getElem? (i := 114) rfl) rfl
theorem gw_5_117 : Cond.fieldLink RX12 13 "NoiseWatchModel" "text" "[B" ∈ GL := GL_5 (List.mem_of_getElem? (i := 117) rfl) rfl
theorem gw_5_118 : Cond.fieldLink RX12 17 "NoiseWatchModel" "saved" "[Z" ∈ GL := GL_5 (List.mem_of_getElem? (i := 118) rfl) rfl
theorem gw_5_136 : Cond.fieldLink RX12 24 "NoiseWatchModel" "tuples" "[I" ∈ GL := GL_5 (List.mem_of_getElem? (i := 136) rfl) rfl
theorem gw_1_15 : Cond.initialized RX12 ∈ GL := GL_1 (List.mem_of_getElem? (i := 15) rfl) rfl
theorem gw_5_109 : Cond.instanceMethod yX12_atFirst ∈ GL := GL_5 (List.mem_of_getElem? (i := 109) rfl) rfl
theorem gw_5_113 : Cond.instanceMethod yX12_taken ∈ GL := GL_5 (List.mem_of_getElem? (i := 113) rfl) rfl
theorem gw_5_106 : Cond.methodLink RX12 1 objectInit ∈ GL := GL_5 (List.mem_of_getElem? (i := 106) rfl) rfl
theorem gw_5_107 : Cond.methodLink RX12 27 yX12_atFirst ∈ GL := GL_5 (List.mem_of_getElem? (i := 107) rfl) rfl
theorem gw_5_111 : Cond.methodLink RX12 30 yX12_taken ∈ GL := GL_5 (List.mem_of_getElem? (i := 111) rfl) rfl
theorem gw_s_2_10 : Cond.selects RX12 yX12_atFirst yX12_atFirst ∈ GL := GL_s2 (q := (yX12_atFirst, 22)) (List.mem_of_getElem? (i := 10) rfl)
theorem gw_s_2_11 : Cond.selects RX12 yX12_taken yX12_taken ∈ GL := GL_s2 (q := (yX12_taken, 22)) (List.mem_of_getElem? (i := 11) rfl)
theorem gw_2_222 : Cond.code yX9_byteOf cX9_byteOf 3 (some .int) ∈ GL := GL_2 (List.mem_of_getElem? (i := 222) rfl) rfl
theorem gw_2_220 : Cond.methodLink RX9 29 yX9_byteOf ∈ GL := GL_2 (List.mem_of_getElem? (i := 220) rfl) rfl
theorem gw_2_221 : Cond.static yX9_byteOf ∈ GL := GL_2 (List.mem_of_getElem? (i := 221) rfl) rfl
theorem gw_2_219 : Cond.code yX9_append cX9_append 5 (some .int) ∈ GL := GL_2 (List.mem_of_getElem? (i := 219) rfl) rfl
theorem gw_2_217 : Cond.instanceMethod yX9_append ∈ GL := GL_2 (List.mem_of_getElem? (i := 217) rfl) rfl
theorem gw_2_216 : Cond.methodLink RX11 58 yX9_append ∈ GL := GL_2 (List.mem_of_getElem? (i := 216) rfl) rfl
theorem gw_2_218 : Cond.selects RX9 yX9_append yX9_append ∈ GL := GL_2 (List.mem_of_getElem? (i := 218) rfl) rfl
theorem gw_1_16 : Cond.initialized "java/lang/System" ∈ GL := GL_1 (List.mem_of_getElem? (i := 16) rfl) rfl
theorem gw_2_235 : Cond.methodLink RX7 36 Lib.Math.min.name ∈ GL := GL_2 (List.mem_of_getElem? (i := 235) rfl) rfl
theorem gw_2_236 : Cond.methodLink RX7 42 arraycopyName ∈ GL := GL_2 (List.mem_of_getElem? (i := 236) rfl) rfl
theorem gw_2_238 : Cond.native arraycopyName ∈ GL := GL_2 (List.mem_of_getElem? (i := 238) rfl) rfl
theorem gw_2_237 : Cond.static arraycopyName ∈ GL := GL_2 (List.mem_of_getElem? (i := 237) rfl) rfl
theorem gw_3_12 : Cond.code yX5_isLetter cX5_isLetter 1 (some .boolean) ∈ GL := GL_3 (List.mem_of_getElem? (i := 12) rfl) rfl
theorem gw_3_6 : Cond.code yX9_byteAt cX9_byteAt 2 (some .int) ∈ GL := GL_3 (List.mem_of_getElem? (i := 6) rfl) rfl
theorem gw_3_4 : Cond.instanceMethod yX9_byteAt ∈ GL := GL_3 (List.mem_of_getElem? (i := 4) rfl) rfl
theorem gw_3_3 : Cond.methodLink RX5 89 yX9_byteAt ∈ GL := GL_3 (List.mem_of_getElem? (i := 3) rfl) rfl
theorem gw_3_10 : Cond.methodLink RX5 97 yX5_isLetter ∈ GL := GL_3 (List.mem_of_getElem? (i := 10) rfl) rfl
theorem gw_3_5 : Cond.selects RX9 yX9_byteAt yX9_byteAt ∈ GL := GL_3 (List.mem_of_getElem? (i := 5) rfl) rfl
theorem gw_3_11 : Cond.static yX5_isLetter ∈ GL := GL_3 (List.mem_of_getElem? (i := 11) rfl) rfl
theorem gw_3_19 : Cond.code yX5_isDigit cX5_isDigit 1 (some .boolean) ∈ GL := GL_3 (List.mem_of_getElem? (i := 19) rfl) rfl
theorem gw_3_17 : Cond.methodLink RX5 103 yX5_isDigit ∈ GL := GL_3 (List.mem_of_getElem? (i := 17) rfl) rfl
theorem gw_3_18 : Cond.static yX5_isDigit ∈ GL := GL_3 (List.mem_of_getElem? (i := 18) rfl) rfl
theorem gw_3_9 : Cond.code yX5_isBlank cX5_isBlank 1 (some .boolean) ∈ GL := GL_3 (List.mem_of_getElem? (i := 9) rfl) rfl
theorem gw_3_23 : Cond.code yX5_passNumber cX5_passNumber 2 none ∈ GL := GL_3 (List.mem_of_getElem? (i := 23) rfl) rfl
theorem gw_3_16 : Cond.code yX5_passWord cX5_passWord 2 none ∈ GL := GL_3 (List.mem_of_getElem? (i := 16) rfl) rfl
theorem gw_3_22 : Cond.instanceMethod yX5_passNumber ∈ GL := GL_3 (List.mem_of_getElem? (i := 22) rfl) rfl
theorem gw_3_15 : Cond.instanceMethod yX5_passWord ∈ GL := GL_3 (List.mem_of_getElem? (i := 15) rfl) rfl
theorem gw_3_13 : Cond.methodLink RX5 100 yX5_passWord ∈ GL := GL_3 (List.mem_of_getElem? (i := 13) rfl) rfl
theorem gw_3_20 : Cond.methodLink RX5 106 yX5_passNumber ∈ GL := GL_3 (List.mem_of_getElem? (i := 20) rfl) rfl
theorem gw_3_7 : Cond.methodLink RX5 93 yX5_isBlank ∈ GL := GL_3 (List.mem_of_getElem? (i := 7) rfl) rfl
theorem gw_s_1_2 : Cond.selects RX5 yX5_passNumber yX5_passNumber ∈ GL := GL_s1 (q := (yX5_passNumber, 8)) (List.mem_of_getElem? (i := 2) rfl)
theorem gw_s_1_1 : Cond.selects RX5 yX5_passWord yX5_passWord ∈ GL := GL_s1 (q := (yX5_passWord, 8)) (List.mem_of_getElem? (i := 1) rfl)
theorem gw_3_8 : Cond.static yX5_isBlank ∈ GL := GL_3 (List.mem_of_getElem? (i := 8) rfl) rfl
theorem gw_3_63 : Cond.code yJ0_charAt_5068e cJ0_charAt_5068e 2 (some .char) ∈ GL := GL_3 (List.mem_of_getElem? (i := 63) rfl) rfl
theorem gw_3_52 : Cond.code yJ0_length_8abf5 cJ0_length_8abf5 1 (some .int) ∈ GL := GL_3 (List.mem_of_getElem? (i := 52) rfl) rfl
theorem gw_3_61 : Cond.instanceMethod yJ0_charAt_5068e ∈ GL := GL_3 (List.mem_of_getElem? (i := 61) rfl) rfl
theorem gw_3_50 : Cond.instanceMethod yJ0_length_8abf5 ∈ GL := GL_3 (List.mem_of_getElem? (i := 50) rfl) rfl
theorem gw_3_49 : Cond.methodLink RX9 33 yJ0_length_8abf5 ∈ GL := GL_3 (List.mem_of_getElem? (i := 49) rfl) rfl
theorem gw_3_59 : Cond.methodLink RX9 39 yX9_byteAt ∈ GL := GL_3 (List.mem_of_getElem? (i := 59) rfl) rfl
theorem gw_3_60 : Cond.methodLink RX9 43 yJ0_charAt_5068e ∈ GL := GL_3 (List.mem_of_getElem? (i := 60) rfl) rfl
theorem gw_3_62 : Cond.selects RJ0 yJ0_charAt_5068e yJ0_charAt_5068e ∈ GL := GL_3 (List.mem_of_getElem? (i := 62) rfl) rfl
theorem gw_3_51 : Cond.selects RJ0 yJ0_length_8abf5 yJ0_length_8abf5 ∈ GL := GL_3 (List.mem_of_getElem? (i := 51) rfl) rfl
theorem gw_3_34 : Cond.code yX5_wordOf cX5_wordOf 1 (some (.object "java/lang/String")) ∈ GL := GL_3 (List.mem_of_getElem? (i := 34) rfl) rfl
theorem gw_3_48 : Cond.code yX9_hasWord cX9_hasWord 5 (some .boolean) ∈ GL := GL_3 (List.mem_of_getElem? (i := 48) rfl) rfl
theorem gw_3_46 : Cond.instanceMethod yX9_hasWord ∈ GL := GL_3 (List.mem_of_getElem? (i := 46) rfl) rfl
theorem gw_3_32 : Cond.methodLink RX5 109 yX5_wordOf ∈ GL := GL_3 (List.mem_of_getElem? (i := 32) rfl) rfl
theorem gw_3_45 : Cond.methodLink RX5 113 yX9_hasWord ∈ GL := GL_3 (List.mem_of_getElem? (i := 45) rfl) rfl
theorem gw_3_47 : Cond.selects RX9 yX9_hasWord yX9_hasWord ∈ GL := GL_3 (List.mem_of_getElem? (i := 47) rfl) rfl
theorem gw_3_33 : Cond.static yX5_wordOf ∈ GL := GL_3 (List.mem_of_getElem? (i := 33) rfl) rfl
theorem gw_3_117 : Cond.code yX7_addStuck cX7_addStuck 4 none ∈ GL := GL_3 (List.mem_of_getElem? (i := 117) rfl) rfl
theorem gw_3_121 : Cond.code yX7_setValue cX7_setValue 3 none ∈ GL := GL_3 (List.mem_of_getElem? (i := 121) rfl) rfl
theorem gw_3_115 : Cond.instanceMethod yX7_addStuck ∈ GL := GL_3 (List.mem_of_getElem? (i := 115) rfl) rfl
theorem gw_3_119 : Cond.instanceMethod yX7_setValue ∈ GL := GL_3 (List.mem_of_getElem? (i := 119) rfl) rfl
theorem gw_3_114 : Cond.methodLink RX5 76 yX7_addStuck ∈ GL := GL_3 (List.mem_of_getElem? (i := 114) rfl) rfl
theorem gw_3_118 : Cond.methodLink RX5 80 yX7_setValue ∈ GL := GL_3 (List.mem_of_getElem? (i := 118) rfl) rfl
theorem gw_3_116 : Cond.selects RX7 yX7_addStuck yX7_addStuck ∈ GL := GL_3 (List.mem_of_getElem? (i := 116) rfl) rfl
theorem gw_3_120 : Cond.selects RX7 yX7_setValue yX7_setValue ∈ GL := GL_3 (List.mem_of_getElem? (i := 120) rfl) rfl
theorem gw_3_105 : Cond.code yX5_canBe cX5_canBe 3 (some .boolean) ∈ GL := GL_3 (List.mem_of_getElem? (i := 105) rfl) rfl
theorem gw_3_2 : Cond.code yX5_nextToken cX5_nextToken 3 none ∈ GL := GL_3 (List.mem_of_getElem? (i := 2) rfl) rfl
theorem gw_3_101 : Cond.code yX5_note cX5_note 2 none ∈ GL := GL_3 (List.mem_of_getElem? (i := 101) rfl) rfl
theorem gw_3_113 : Cond.code yX5_putNumbers cX5_putNumbers 2 none ∈ GL := GL_3 (List.mem_of_getElem? (i := 113) rfl) rfl
theorem gw_3_31 : Cond.code yX5_settingOf cX5_settingOf 3 (some .int) ∈ GL := GL_3 (List.mem_of_getElem? (i := 31) rfl) rfl
theorem gw_3_104 : Cond.instanceMethod yX5_canBe ∈ GL := GL_3 (List.mem_of_getElem? (i := 104) rfl) rfl
theorem gw_3_1 : Cond.instanceMethod yX5_nextToken ∈ GL := GL_3 (List.mem_of_getElem? (i := 1) rfl) rfl
theorem gw_3_100 : Cond.instanceMethod yX5_note ∈ GL := GL_3 (List.mem_of_getElem? (i := 100) rfl) rfl
theorem gw_3_112 : Cond.instanceMethod yX5_putNumbers ∈ GL := GL_3 (List.mem_of_getElem? (i := 112) rfl) rfl
theorem gw_3_30 : Cond.instanceMethod yX5_settingOf ∈ GL := GL_3 (List.mem_of_getElem? (i := 30) rfl) rfl
theorem gw_2_239 : Cond.methodLink RX5 44 yX5_nextToken ∈ GL := GL_2 (List.mem_of_getElem? (i := 239) rfl) rfl
theorem gw_3_28 : Cond.methodLink RX5 52 yX5_settingOf ∈ GL := GL_3 (List.mem_of_getElem? (i := 28) rfl) rfl
theorem gw_3_98 : Cond.methodLink RX5 59 yX5_note ∈ GL := GL_3 (List.mem_of_getElem? (i := 98) rfl) rfl
theorem gw_3_102 : Cond.methodLink RX5 63 yX5_canBe ∈ GL := GL_3 (List.mem_of_getElem? (i := 102) rfl) rfl
theorem gw_3_110 : Cond.methodLink RX5 67 yX5_putNumbers ∈ GL := GL_3 (List.mem_of_getElem? (i := 110) rfl) rfl
theorem gw_s_1_6 : Cond.selects RX5 yX5_canBe yX5_canBe ∈ GL := GL_s1 (q := (yX5_canBe, 8)) (List.mem_of_getElem? (i := 6) rfl)
theorem gw_s_1_0 : Cond.selects RX5 yX5_nextToken yX5_nextToken ∈ GL := GL_s1 (q := (yX5_nextToken, 8)) (List.mem_of_getElem? (i := 0) rfl)
theorem gw_s_1_5 : Cond.selects RX5 yX5_note yX5_note ∈ GL := GL_s1 (q := (yX5_note, 8)) (List.mem_of_getElem? (i := 5) rfl)
theorem gw_s_1_7 : Cond.selects RX5 yX5_putNumbers yX5_putNumbers ∈ GL := GL_s1 (q := (yX5_putNumbers, 8)) (List.mem_of_getElem? (i := 7) rfl)
theorem gw_s_1_4 : Cond.selects RX5 yX5_settingOf yX5_settingOf ∈ GL := GL_s1 (q := (yX5_settingOf, 8)) (List.mem_of_getElem? (i := 4) rfl)
theorem gw_3_27 : Cond.code yX5_readSetting cX5_readSetting 5 (some .boolean) ∈ GL := GL_3 (List.mem_of_getElem? (i := 27) rfl) rfl
theorem gw_2_234 : Cond.code yX7_setFirst cX7_setFirst 1 none ∈ GL := GL_2 (List.mem_of_getElem? (i := 234) rfl) rfl
theorem gw_3_26 : Cond.instanceMethod yX5_readSetting ∈ GL := GL_3 (List.mem_of_getElem? (i := 26) rfl) rfl
theorem gw_2_232 : Cond.instanceMethod yX7_setFirst ∈ GL := GL_2 (List.mem_of_getElem? (i := 232) rfl) rfl
theorem gw_2_231 : Cond.methodLink RX5 41 yX7_setFirst ∈ GL := GL_2 (List.mem_of_getElem? (i := 231) rfl) rfl
theorem gw_3_24 : Cond.methodLink RX5 48 yX5_readSetting ∈ GL := GL_3 (List.mem_of_getElem? (i := 24) rfl) rfl
theorem gw_s_1_3 : Cond.selects RX5 yX5_readSetting yX5_readSetting ∈ GL := GL_s1 (q := (yX5_readSetting, 8)) (List.mem_of_getElem? (i := 3) rfl)
theorem gw_2_233 : Cond.selects RX7 yX7_setFirst yX7_setFirst ∈ GL := GL_2 (List.mem_of_getElem? (i := 233) rfl) rfl
theorem gw_2_230 : Cond.code yX5_read cX5_read 3 (some .boolean) ∈ GL := GL_2 (List.mem_of_getElem? (i := 230) rfl) rfl
theorem gw_3_126 : Cond.code yX7_copyFrom cX7_copyFrom 2 none ∈ GL := GL_3 (List.mem_of_getElem? (i := 126) rfl) rfl
theorem gw_2_228 : Cond.instanceMethod yX5_read ∈ GL := GL_2 (List.mem_of_getElem? (i := 228) rfl) rfl
theorem gw_3_124 : Cond.instanceMethod yX7_copyFrom ∈ GL := GL_3 (List.mem_of_getElem? (i := 124) rfl) rfl
theorem gw_2_227 : Cond.methodLink RX11 64 yX5_read ∈ GL := GL_2 (List.mem_of_getElem? (i := 227) rfl) rfl
theorem gw_3_122 : Cond.methodLink RX11 75 yX9_refuse ∈ GL := GL_3 (List.mem_of_getElem? (i := 122) rfl) rfl
theorem gw_3_123 : Cond.methodLink RX11 86 yX7_copyFrom ∈ GL := GL_3 (List.mem_of_getElem? (i := 123) rfl) rfl
theorem gw_3_127 : Cond.methodLink RX11 92 yX10_begin ∈ GL := GL_3 (List.mem_of_getElem? (i := 127) rfl) rfl
theorem gw_2_229 : Cond.selects RX5 yX5_read yX5_read ∈ GL := GL_2 (List.mem_of_getElem? (i := 229) rfl) rfl
theorem gw_3_125 : Cond.selects RX7 yX7_copyFrom yX7_copyFrom ∈ GL := GL_3 (List.mem_of_getElem? (i := 125) rfl) rfl
theorem gw_3_149 : Cond.methodLink RX6 22 arraycopyName ∈ GL := GL_3 (List.mem_of_getElem? (i := 149) rfl) rfl
theorem gw_3_144 : Cond.code yX3_lose cX3_lose 1 none ∈ GL := GL_3 (List.mem_of_getElem? (i := 144) rfl) rfl
theorem gw_3_148 : Cond.code yX6_open cX6_open 1 none ∈ GL := GL_3 (List.mem_of_getElem? (i := 148) rfl) rfl
theorem gw_3_142 : Cond.instanceMethod yX3_lose ∈ GL := GL_3 (List.mem_of_getElem? (i := 142) rfl) rfl
theorem gw_3_146 : Cond.instanceMethod yX6_open ∈ GL := GL_3 (List.mem_of_getElem? (i := 146) rfl) rfl
theorem gw_3_141 : Cond.methodLink RX10 107 yX3_lose ∈ GL := GL_3 (List.mem_of_getElem? (i := 141) rfl) rfl
theorem gw_3_145 : Cond.methodLink RX10 110 yX6_open ∈ GL := GL_3 (List.mem_of_getElem? (i := 145) rfl) rfl
theorem gw_3_143 : Cond.selects RX3 yX3_lose yX3_lose ∈ GL := GL_3 (List.mem_of_getElem? (i := 143) rfl) rfl
theorem gw_3_147 : Cond.selects RX6 yX6_open yX6_open ∈ GL := GL_3 (List.mem_of_getElem? (i := 147) rfl) rfl
theorem gw_3_140 : Cond.code yX10_beginStart cX10_beginStart 1 none ∈ GL := GL_3 (List.mem_of_getElem? (i := 140) rfl) rfl
theorem gw_3_138 : Cond.instanceMethod yX10_beginStart ∈ GL := GL_3 (List.mem_of_getElem? (i := 138) rfl) rfl
theorem gw_3_137 : Cond.methodLink RX11 100 yX10_beginStart ∈ GL := GL_3 (List.mem_of_getElem? (i := 137) rfl) rfl
theorem gw_3_139 : Cond.selects RX10 yX10_beginStart yX10_beginStart ∈ GL := GL_3 (List.mem_of_getElem? (i := 139) rfl) rfl
theorem gw_3_157 : Cond.code yX10_turnOff cX10_turnOff 1 none ∈ GL := GL_3 (List.mem_of_getElem? (i := 157) rfl) rfl
theorem gw_3_155 : Cond.instanceMethod yX10_turnOff ∈ GL := GL_3 (List.mem_of_getElem? (i := 155) rfl) rfl
theorem gw_3_154 : Cond.methodLink RX11 109 yX10_turnOff ∈ GL := GL_3 (List.mem_of_getElem? (i := 154) rfl) rfl
theorem gw_3_156 : Cond.selects RX10 yX10_turnOff yX10_turnOff ∈ GL := GL_3 (List.mem_of_getElem? (i := 156) rfl) rfl
theorem gw_3_174 : Cond.constant RX8 35 (1103515245) ∈ GL := GL_3 (List.mem_of_getElem? (i := 174) rfl) rfl
theorem gw_3_179 : Cond.code yX7_stuckAt cX7_stuckAt 4 (some .int) ∈ GL := GL_3 (List.mem_of_getElem? (i := 179) rfl) rfl
theorem gw_3_173 : Cond.code yX8_belowSixteen cX8_belowSixteen 1 (some .int) ∈ GL := GL_3 (List.mem_of_getElem? (i := 173) rfl) rfl
theorem gw_3_177 : Cond.instanceMethod yX7_stuckAt ∈ GL := GL_3 (List.mem_of_getElem? (i := 177) rfl) rfl
theorem gw_3_172 : Cond.instanceMethod yX8_belowSixteen ∈ GL := GL_3 (List.mem_of_getElem? (i := 172) rfl) rfl
theorem gw_3_170 : Cond.methodLink RX8 21 yX8_belowSixteen ∈ GL := GL_3 (List.mem_of_getElem? (i := 170) rfl) rfl
theorem gw_3_175 : Cond.methodLink RX8 25 yX7_valueOf ∈ GL := GL_3 (List.mem_of_getElem? (i := 175) rfl) rfl
theorem gw_3_176 : Cond.methodLink RX8 31 yX7_stuckAt ∈ GL := GL_3 (List.mem_of_getElem? (i := 176) rfl) rfl
theorem gw_3_178 : Cond.selects RX7 yX7_stuckAt yX7_stuckAt ∈ GL := GL_3 (List.mem_of_getElem? (i := 178) rfl) rfl
theorem gw_s_1_8 : Cond.selects RX8 yX8_belowSixteen yX8_belowSixteen ∈ GL := GL_s1 (q := (yX8_belowSixteen, 3)) (List.mem_of_getElem? (i := 8) rfl)
theorem gw_3_218 : Cond.methodLink RX7 48 yX7_valueOf ∈ GL := GL_3 (List.mem_of_getElem? (i := 218) rfl) rfl
theorem gw_3_222 : Cond.code yX7_earned cX7_earned 1 (some .int) ∈ GL := GL_3 (List.mem_of_getElem? (i := 222) rfl) rfl
theorem gw_3_220 : Cond.instanceMethod yX7_earned ∈ GL := GL_3 (List.mem_of_getElem? (i := 220) rfl) rfl
theorem gw_3_219 : Cond.methodLink RX7 52 yX7_earned ∈ GL := GL_3 (List.mem_of_getElem? (i := 219) rfl) rfl
theorem gw_3_221 : Cond.selects RX7 yX7_earned yX7_earned ∈ GL := GL_3 (List.mem_of_getElem? (i := 221) rfl) rfl
theorem gw_3_191 : Cond.code yX4_append cX4_append 2 none ∈ GL := GL_3 (List.mem_of_getElem? (i := 191) rfl) rfl
theorem gw_3_189 : Cond.instanceMethod yX4_append ∈ GL := GL_3 (List.mem_of_getElem? (i := 189) rfl) rfl
theorem gw_3_227 : Cond.methodLink RX3 58 yX4_append ∈ GL := GL_3 (List.mem_of_getElem? (i := 227) rfl) rfl
theorem gw_3_190 : Cond.selects RX4 yX4_append yX4_append ∈ GL := GL_3 (List.mem_of_getElem? (i := 190) rfl) rfl
theorem gw_3_226 : Cond.code yX3_fillFrom cX3_fillFrom 3 none ∈ GL := GL_3 (List.mem_of_getElem? (i := 226) rfl) rfl
theorem gw_3_217 : Cond.code yX7_yielded cX7_yielded 1 (some .int) ∈ GL := GL_3 (List.mem_of_getElem? (i := 217) rfl) rfl
theorem gw_3_212 : Cond.constant RX3 40 (65535) ∈ GL := GL_3 (List.mem_of_getElem? (i := 212) rfl) rfl
theorem gw_3_225 : Cond.instanceMethod yX3_fillFrom ∈ GL := GL_3 (List.mem_of_getElem? (i := 225) rfl) rfl
theorem gw_3_215 : Cond.instanceMethod yX7_yielded ∈ GL := GL_3 (List.mem_of_getElem? (i := 215) rfl) rfl
theorem gw_3_213 : Cond.methodLink RX3 41 yX7_valueOf ∈ GL := GL_3 (List.mem_of_getElem? (i := 213) rfl) rfl
theorem gw_3_214 : Cond.methodLink RX3 47 yX7_yielded ∈ GL := GL_3 (List.mem_of_getElem? (i := 214) rfl) rfl
theorem gw_3_223 : Cond.methodLink RX3 51 yX3_fillFrom ∈ GL := GL_3 (List.mem_of_getElem? (i := 223) rfl) rfl
theorem gw_s_1_10 : Cond.selects RX3 yX3_fillFrom yX3_fillFrom ∈ GL := GL_s1 (q := (yX3_fillFrom, 7)) (List.mem_of_getElem? (i := 10) rfl)
theorem gw_3_216 : Cond.selects RX7 yX7_yielded yX7_yielded ∈ GL := GL_3 (List.mem_of_getElem? (i := 216) rfl) rfl
theorem gw_3_207 : Cond.code yX10_raiseAlarm cX10_raiseAlarm 2 none ∈ GL := GL_3 (List.mem_of_getElem? (i := 207) rfl) rfl
theorem gw_3_199 : Cond.code yX1_hear cX1_hear 3 none ∈ GL := GL_3 (List.mem_of_getElem? (i := 199) rfl) rfl
theorem gw_3_203 : Cond.code yX2_failures cX2_failures 3 (some .int) ∈ GL := GL_3 (List.mem_of_getElem? (i := 203) rfl) rfl
theorem gw_3_211 : Cond.code yX3_feed cX3_feed 4 none ∈ GL := GL_3 (List.mem_of_getElem? (i := 211) rfl) rfl
theorem gw_3_187 : Cond.code yX4_dropFirst cX4_dropFirst 2 (some .int) ∈ GL := GL_3 (List.mem_of_getElem? (i := 187) rfl) rfl
theorem gw_3_195 : Cond.code yX6_append cX6_append 3 none ∈ GL := GL_3 (List.mem_of_getElem? (i := 195) rfl) rfl
theorem gw_3_206 : Cond.instanceMethod yX10_raiseAlarm ∈ GL := GL_3 (List.mem_of_getElem? (i := 206) rfl) rfl
theorem gw_3_197 : Cond.instanceMethod yX1_hear ∈ GL := GL_3 (List.mem_of_getElem? (i := 197) rfl) rfl
theorem gw_3_201 : Cond.instanceMethod yX2_failures ∈ GL := GL_3 (List.mem_of_getElem? (i := 201) rfl) rfl
theorem gw_3_209 : Cond.instanceMethod yX3_feed ∈ GL := GL_3 (List.mem_of_getElem? (i := 209) rfl) rfl
theorem gw_3_185 : Cond.instanceMethod yX4_dropFirst ∈ GL := GL_3 (List.mem_of_getElem? (i := 185) rfl) rfl
theorem gw_3_193 : Cond.instanceMethod yX6_append ∈ GL := GL_3 (List.mem_of_getElem? (i := 193) rfl) rfl
theorem gw_3_184 : Cond.methodLink RX10 124 yX4_dropFirst ∈ GL := GL_3 (List.mem_of_getElem? (i := 184) rfl) rfl
theorem gw_3_188 : Cond.methodLink RX10 128 yX4_append ∈ GL := GL_3 (List.mem_of_getElem? (i := 188) rfl) rfl
theorem gw_3_192 : Cond.methodLink RX10 131 yX6_append ∈ GL := GL_3 (List.mem_of_getElem? (i := 192) rfl) rfl
theorem gw_3_196 : Cond.methodLink RX10 132 yX1_hear ∈ GL := GL_3 (List.mem_of_getElem? (i := 196) rfl) rfl
theorem gw_3_200 : Cond.methodLink RX10 135 yX2_failures ∈ GL := GL_3 (List.mem_of_getElem? (i := 200) rfl) rfl
theorem gw_3_204 : Cond.methodLink RX10 139 yX10_raiseAlarm ∈ GL := GL_3 (List.mem_of_getElem? (i := 204) rfl) rfl
theorem gw_3_208 : Cond.methodLink RX10 142 yX3_feed ∈ GL := GL_3 (List.mem_of_getElem? (i := 208) rfl) rfl
theorem gw_3_198 : Cond.selects RX1 yX1_hear yX1_hear ∈ GL := GL_3 (List.mem_of_getElem? (i := 198) rfl) rfl
theorem gw_s_1_9 : Cond.selects RX10 yX10_raiseAlarm yX10_raiseAlarm ∈ GL := GL_s1 (q := (yX10_raiseAlarm, 14)) (List.mem_of_getElem? (i := 9) rfl)
theorem gw_3_202 : Cond.selects RX2 yX2_failures yX2_failures ∈ GL := GL_3 (List.mem_of_getElem? (i := 202) rfl) rfl
theorem gw_3_210 : Cond.selects RX3 yX3_feed yX3_feed ∈ GL := GL_3 (List.mem_of_getElem? (i := 210) rfl) rfl
theorem gw_3_186 : Cond.selects RX4 yX4_dropFirst yX4_dropFirst ∈ GL := GL_3 (List.mem_of_getElem? (i := 186) rfl) rfl
theorem gw_3_194 : Cond.selects RX6 yX6_append yX6_append ∈ GL := GL_3 (List.mem_of_getElem? (i := 194) rfl) rfl
theorem gw_3_183 : Cond.code yX10_hear cX10_hear 3 (some .boolean) ∈ GL := GL_3 (List.mem_of_getElem? (i := 183) rfl) rfl
theorem gw_3_169 : Cond.code yX8_next cX8_next 3 (some .int) ∈ GL := GL_3 (List.mem_of_getElem? (i := 169) rfl) rfl
theorem gw_3_181 : Cond.instanceMethod yX10_hear ∈ GL := GL_3 (List.mem_of_getElem? (i := 181) rfl) rfl
theorem gw_3_167 : Cond.instanceMethod yX8_next ∈ GL := GL_3 (List.mem_of_getElem? (i := 167) rfl) rfl
theorem gw_3_166 : Cond.methodLink RX10 113 yX8_next ∈ GL := GL_3 (List.mem_of_getElem? (i := 166) rfl) rfl
theorem gw_3_180 : Cond.methodLink RX10 117 yX10_hear ∈ GL := GL_3 (List.mem_of_getElem? (i := 180) rfl) rfl
theorem gw_3_182 : Cond.selects RX10 yX10_hear yX10_hear ∈ GL := GL_3 (List.mem_of_getElem? (i := 182) rfl) rfl
theorem gw_3_168 : Cond.selects RX8 yX8_next yX8_next ∈ GL := GL_3 (List.mem_of_getElem? (i := 168) rfl) rfl
theorem gw_3_165 : Cond.code yX10_drawMany cX10_drawMany 4 (some .int) ∈ GL := GL_3 (List.mem_of_getElem? (i := 165) rfl) rfl
theorem gw_3_163 : Cond.instanceMethod yX10_drawMany ∈ GL := GL_3 (List.mem_of_getElem? (i := 163) rfl) rfl
theorem gw_3_162 : Cond.methodLink RX11 112 yX10_drawMany ∈ GL := GL_3 (List.mem_of_getElem? (i := 162) rfl) rfl
theorem gw_3_164 : Cond.selects RX10 yX10_drawMany yX10_drawMany ∈ GL := GL_3 (List.mem_of_getElem? (i := 164) rfl) rfl
theorem gw_3_232 : Cond.methodLink RX11 116 yX10_hear ∈ GL := GL_3 (List.mem_of_getElem? (i := 232) rfl) rfl
theorem gw_4_1 : Cond.methodLink RX3 61 yX4_dropFirst ∈ GL := GL_4 (List.mem_of_getElem? (i := 1) rfl) rfl
theorem gw_4_0 : Cond.code yX3_takeBits cX3_takeBits 4 (some .int) ∈ GL := GL_4 (List.mem_of_getElem? (i := 0) rfl) rfl
theorem gw_3_238 : Cond.instanceMethod yX3_takeBits ∈ GL := GL_3 (List.mem_of_getElem? (i := 238) rfl) rfl
theorem gw_3_237 : Cond.methodLink RX11 124 yX3_takeBits ∈ GL := GL_3 (List.mem_of_getElem? (i := 237) rfl) rfl
theorem gw_3_239 : Cond.selects RX3 yX3_takeBits yX3_takeBits ∈ GL := GL_3 (List.mem_of_getElem? (i := 239) rfl) rfl
theorem gw_4_13 : Cond.code yX10_countOfParts cX10_countOfParts 2 (some .int) ∈ GL := GL_4 (List.mem_of_getElem? (i := 13) rfl) rfl
theorem gw_4_12 : Cond.instanceMethod yX10_countOfParts ∈ GL := GL_4 (List.mem_of_getElem? (i := 12) rfl) rfl
theorem gw_4_10 : Cond.methodLink RX10 146 yX10_countOfParts ∈ GL := GL_4 (List.mem_of_getElem? (i := 10) rfl) rfl
theorem gw_s_1_11 : Cond.selects RX10 yX10_countOfParts yX10_countOfParts ∈ GL := GL_s1 (q := (yX10_countOfParts, 14)) (List.mem_of_getElem? (i := 11) rfl)
theorem gw_4_9 : Cond.code yX10_countOf cX10_countOf 2 (some .int) ∈ GL := GL_4 (List.mem_of_getElem? (i := 9) rfl) rfl
theorem gw_4_7 : Cond.instanceMethod yX10_countOf ∈ GL := GL_4 (List.mem_of_getElem? (i := 7) rfl) rfl
theorem gw_4_6 : Cond.methodLink RX11 129 yX10_countOf ∈ GL := GL_4 (List.mem_of_getElem? (i := 6) rfl) rfl
theorem gw_4_8 : Cond.selects RX10 yX10_countOf yX10_countOf ∈ GL := GL_4 (List.mem_of_getElem? (i := 8) rfl) rfl
theorem gw_4_18 : Cond.methodLink RX11 157 yX7_valueOf ∈ GL := GL_4 (List.mem_of_getElem? (i := 18) rfl) rfl
theorem gw_4_19 : Cond.methodLink RX11 160 yX2_fill ∈ GL := GL_4 (List.mem_of_getElem? (i := 19) rfl) rfl
theorem gw_4_174 : Cond.methodLink RX11 280 yX2_leastBy ∈ GL := GL_4 (List.mem_of_getElem? (i := 174) rfl) rfl
theorem gw_5_40 : Cond.classLink RX11 154 "java/util/NoSuchElementException" ∈ GL := GL_5 (List.mem_of_getElem? (i := 40) rfl) rfl
theorem gw_4_173 : Cond.code yX11_rowsOf cX11_rowsOf 2 (some .int) ∈ GL := GL_4 (List.mem_of_getElem? (i := 173) rfl) rfl
theorem gw_1_24 : Cond.initialized "java/util/NoSuchElementException" ∈ GL := GL_1 (List.mem_of_getElem? (i := 24) rfl) rfl
theorem gw_1_1 : Cond.initialized RX11 ∈ GL := GL_1 (List.mem_of_getElem? (i := 1) rfl) rfl
theorem gw_4_172 : Cond.instanceMethod yX11_rowsOf ∈ GL := GL_4 (List.mem_of_getElem? (i := 172) rfl) rfl
theorem gw_4_170 : Cond.methodLink RX11 132 yX11_rowsOf ∈ GL := GL_4 (List.mem_of_getElem? (i := 170) rfl) rfl
theorem gw_5_38 : Cond.methodLink RX11 147 yX7_yielded ∈ GL := GL_5 (List.mem_of_getElem? (i := 38) rfl) rfl
theorem gw_5_39 : Cond.methodLink RX11 151 yX7_earned ∈ GL := GL_5 (List.mem_of_getElem? (i := 39) rfl) rfl
theorem gw_s_2_6 : Cond.selects RX11 yX11_rowsOf yX11_rowsOf ∈ GL := GL_s2 (q := (yX11_rowsOf, 8)) (List.mem_of_getElem? (i := 6) rfl)
theorem gw_4_23 : Cond.code yX2_leastTerms cX2_leastTerms 8 (some .long) ∈ GL := GL_4 (List.mem_of_getElem? (i := 23) rfl) rfl
theorem gw_4_24 : Cond.constantLong RX11 167 (-1) ∈ GL := GL_4 (List.mem_of_getElem? (i := 24) rfl) rfl
theorem gw_4_21 : Cond.instanceMethod yX2_leastTerms ∈ GL := GL_4 (List.mem_of_getElem? (i := 21) rfl) rfl
theorem gw_4_20 : Cond.methodLink RX11 163 yX2_leastTerms ∈ GL := GL_4 (List.mem_of_getElem? (i := 20) rfl) rfl
theorem gw_4_22 : Cond.selects RX2 yX2_leastTerms yX2_leastTerms ∈ GL := GL_4 (List.mem_of_getElem? (i := 22) rfl) rfl
theorem gw_4_32 : Cond.code yX4_bitAt cX4_bitAt 2 (some .int) ∈ GL := GL_4 (List.mem_of_getElem? (i := 32) rfl) rfl
theorem gw_4_30 : Cond.instanceMethod yX4_bitAt ∈ GL := GL_4 (List.mem_of_getElem? (i := 30) rfl) rfl
theorem gw_4_29 : Cond.methodLink RX11 173 yX4_bitAt ∈ GL := GL_4 (List.mem_of_getElem? (i := 29) rfl) rfl
theorem gw_4_31 : Cond.selects RX4 yX4_bitAt yX4_bitAt ∈ GL := GL_4 (List.mem_of_getElem? (i := 31) rfl) rfl
theorem gw_4_48 : Cond.code yX6_has cX6_has 2 (some .boolean) ∈ GL := GL_4 (List.mem_of_getElem? (i := 48) rfl) rfl
theorem gw_4_47 : Cond.instanceMethod yX6_has ∈ GL := GL_4 (List.mem_of_getElem? (i := 47) rfl) rfl
theorem gw_4_45 : Cond.methodLink RX6 28 yX6_has ∈ GL := GL_4 (List.mem_of_getElem? (i := 45) rfl) rfl
theorem gw_s_1_12 : Cond.selects RX6 yX6_has yX6_has ∈ GL := GL_s1 (q := (yX6_has, 3)) (List.mem_of_getElem? (i := 12) rfl)
theorem gw_4_44 : Cond.code yX6_lengthOf cX6_lengthOf 2 (some .int) ∈ GL := GL_4 (List.mem_of_getElem? (i := 44) rfl) rfl
theorem gw_4_52 : Cond.code yX6_sampleOf cX6_sampleOf 3 (some .int) ∈ GL := GL_4 (List.mem_of_getElem? (i := 52) rfl) rfl
theorem gw_4_42 : Cond.instanceMethod yX6_lengthOf ∈ GL := GL_4 (List.mem_of_getElem? (i := 42) rfl) rfl
theorem gw_4_50 : Cond.instanceMethod yX6_sampleOf ∈ GL := GL_4 (List.mem_of_getElem? (i := 50) rfl) rfl
theorem gw_4_41 : Cond.methodLink RX11 185 yX6_lengthOf ∈ GL := GL_4 (List.mem_of_getElem? (i := 41) rfl) rfl
theorem gw_4_49 : Cond.methodLink RX11 190 yX6_sampleOf ∈ GL := GL_4 (List.mem_of_getElem? (i := 49) rfl) rfl
theorem gw_4_43 : Cond.selects RX6 yX6_lengthOf yX6_lengthOf ∈ GL := GL_4 (List.mem_of_getElem? (i := 43) rfl) rfl
theorem gw_4_51 : Cond.selects RX6 yX6_sampleOf yX6_sampleOf ∈ GL := GL_4 (List.mem_of_getElem? (i := 51) rfl) rfl
theorem gw_4_65 : Cond.methodLink RX0 28 Lib.Math.min.name ∈ GL := GL_4 (List.mem_of_getElem? (i := 65) rfl) rfl
theorem gw_4_66 : Cond.methodLink RX0 34 Lib.Math.max.name ∈ GL := GL_4 (List.mem_of_getElem? (i := 66) rfl) rfl
theorem gw_4_67 : Cond.methodLink RX0 40 yX4_bitAt ∈ GL := GL_4 (List.mem_of_getElem? (i := 67) rfl) rfl
theorem gw_4_64 : Cond.code yX0_load cX0_load 5 none ∈ GL := GL_4 (List.mem_of_getElem? (i := 64) rfl) rfl
theorem gw_4_62 : Cond.instanceMethod yX0_load ∈ GL := GL_4 (List.mem_of_getElem? (i := 62) rfl) rfl
theorem gw_4_61 : Cond.methodLink RX11 283 yX0_load ∈ GL := GL_4 (List.mem_of_getElem? (i := 61) rfl) rfl
theorem gw_4_63 : Cond.selects RX0 yX0_load yX0_load ∈ GL := GL_4 (List.mem_of_getElem? (i := 63) rfl) rfl
theorem gw_4_79 : Cond.code yX0_measureCollision cX0_measureCollision 3 none ∈ GL := GL_4 (List.mem_of_getElem? (i := 79) rfl) rfl
theorem gw_4_75 : Cond.code yX0_measureCommon cX0_measureCommon 3 none ∈ GL := GL_4 (List.mem_of_getElem? (i := 75) rfl) rfl
theorem gw_4_83 : Cond.code yX0_measureFollow cX0_measureFollow 6 none ∈ GL := GL_4 (List.mem_of_getElem? (i := 83) rfl) rfl
theorem gw_4_78 : Cond.instanceMethod yX0_measureCollision ∈ GL := GL_4 (List.mem_of_getElem? (i := 78) rfl) rfl
theorem gw_4_74 : Cond.instanceMethod yX0_measureCommon ∈ GL := GL_4 (List.mem_of_getElem? (i := 74) rfl) rfl
theorem gw_4_82 : Cond.instanceMethod yX0_measureFollow ∈ GL := GL_4 (List.mem_of_getElem? (i := 82) rfl) rfl
theorem gw_4_72 : Cond.methodLink RX0 44 yX0_measureCommon ∈ GL := GL_4 (List.mem_of_getElem? (i := 72) rfl) rfl
theorem gw_4_76 : Cond.methodLink RX0 47 yX0_measureCollision ∈ GL := GL_4 (List.mem_of_getElem? (i := 76) rfl) rfl
theorem gw_4_80 : Cond.methodLink RX0 50 yX0_measureFollow ∈ GL := GL_4 (List.mem_of_getElem? (i := 80) rfl) rfl
theorem gw_s_1_15 : Cond.selects RX0 yX0_measureCollision yX0_measureCollision ∈ GL := GL_s1 (q := (yX0_measureCollision, 5)) (List.mem_of_getElem? (i := 15) rfl)
theorem gw_s_1_14 : Cond.selects RX0 yX0_measureCommon yX0_measureCommon ∈ GL := GL_s1 (q := (yX0_measureCommon, 5)) (List.mem_of_getElem? (i := 14) rfl)
theorem gw_s_2_0 : Cond.selects RX0 yX0_measureFollow yX0_measureFollow ∈ GL := GL_s2 (q := (yX0_measureFollow, 5)) (List.mem_of_getElem? (i := 0) rfl)
theorem gw_4_71 : Cond.code yX0_measure cX0_measure 2 none ∈ GL := GL_4 (List.mem_of_getElem? (i := 71) rfl) rfl
theorem gw_4_60 : Cond.code yX11_loadLatest cX11_loadLatest 3 (some .boolean) ∈ GL := GL_4 (List.mem_of_getElem? (i := 60) rfl) rfl
theorem gw_4_69 : Cond.instanceMethod yX0_measure ∈ GL := GL_4 (List.mem_of_getElem? (i := 69) rfl) rfl
theorem gw_4_59 : Cond.instanceMethod yX11_loadLatest ∈ GL := GL_4 (List.mem_of_getElem? (i := 59) rfl) rfl
theorem gw_4_57 : Cond.methodLink RX11 194 yX11_loadLatest ∈ GL := GL_4 (List.mem_of_getElem? (i := 57) rfl) rfl
theorem gw_4_68 : Cond.methodLink RX11 198 yX0_measure ∈ GL := GL_4 (List.mem_of_getElem? (i := 68) rfl) rfl
theorem gw_4_70 : Cond.selects RX0 yX0_measure yX0_measure ∈ GL := GL_4 (List.mem_of_getElem? (i := 70) rfl) rfl
theorem gw_s_1_13 : Cond.selects RX11 yX11_loadLatest yX11_loadLatest ∈ GL := GL_s1 (q := (yX11_loadLatest, 8)) (List.mem_of_getElem? (i := 13) rfl)
theorem gw_4_91 : Cond.code yX0_holdsBy cX0_holdsBy 3 (some .boolean) ∈ GL := GL_4 (List.mem_of_getElem? (i := 91) rfl) rfl
theorem gw_4_89 : Cond.instanceMethod yX0_holdsBy ∈ GL := GL_4 (List.mem_of_getElem? (i := 89) rfl) rfl
theorem gw_4_88 : Cond.methodLink RX11 208 yX0_holdsBy ∈ GL := GL_4 (List.mem_of_getElem? (i := 88) rfl) rfl
theorem gw_4_90 : Cond.selects RX0 yX0_holdsBy yX0_holdsBy ∈ GL := GL_4 (List.mem_of_getElem? (i := 90) rfl) rfl
theorem gw_4_99 : Cond.code yX11_leastChance cX11_leastChance 3 (some .int) ∈ GL := GL_4 (List.mem_of_getElem? (i := 99) rfl) rfl
theorem gw_4_98 : Cond.instanceMethod yX11_leastChance ∈ GL := GL_4 (List.mem_of_getElem? (i := 98) rfl) rfl
theorem gw_4_96 : Cond.methodLink RX11 211 yX11_leastChance ∈ GL := GL_4 (List.mem_of_getElem? (i := 96) rfl) rfl
theorem gw_4_100 : Cond.methodLink RX11 214 Lib.Math.max.name ∈ GL := GL_4 (List.mem_of_getElem? (i := 100) rfl) rfl
theorem gw_s_2_1 : Cond.selects RX11 yX11_leastChance yX11_leastChance ∈ GL := GL_s2 (q := (yX11_leastChance, 8)) (List.mem_of_getElem? (i := 1) rfl)
theorem gw_4_115 : Cond.code yJ7_fill_53178 cJ7_fill_53178 4 none ∈ GL := GL_4 (List.mem_of_getElem? (i := 115) rfl) rfl
theorem gw_4_113 : Cond.methodLink RX0 53 yJ7_fill_53178 ∈ GL := GL_4 (List.mem_of_getElem? (i := 113) rfl) rfl
theorem gw_4_114 : Cond.static yJ7_fill_53178 ∈ GL := GL_4 (List.mem_of_getElem? (i := 114) rfl) rfl
theorem gw_4_112 : Cond.code yX0_mostOften cX0_mostOften 6 (some .int) ∈ GL := GL_4 (List.mem_of_getElem? (i := 112) rfl) rfl
theorem gw_4_108 : Cond.code yX11_loadTuples cX11_loadTuples 3 (some .boolean) ∈ GL := GL_4 (List.mem_of_getElem? (i := 108) rfl) rfl
theorem gw_4_110 : Cond.instanceMethod yX0_mostOften ∈ GL := GL_4 (List.mem_of_getElem? (i := 110) rfl) rfl
theorem gw_4_107 : Cond.instanceMethod yX11_loadTuples ∈ GL := GL_4 (List.mem_of_getElem? (i := 107) rfl) rfl
theorem gw_4_105 : Cond.methodLink RX11 219 yX11_loadTuples ∈ GL := GL_4 (List.mem_of_getElem? (i := 105) rfl) rfl
theorem gw_4_109 : Cond.methodLink RX11 222 yX0_mostOften ∈ GL := GL_4 (List.mem_of_getElem? (i := 109) rfl) rfl
theorem gw_4_111 : Cond.selects RX0 yX0_mostOften yX0_mostOften ∈ GL := GL_4 (List.mem_of_getElem? (i := 111) rfl) rfl
theorem gw_s_2_2 : Cond.selects RX11 yX11_loadTuples yX11_loadTuples ∈ GL := GL_s2 (q := (yX11_loadTuples, 8)) (List.mem_of_getElem? (i := 2) rfl)
theorem gw_4_120 : Cond.constantLong RX11 225 (16) ∈ GL := GL_4 (List.mem_of_getElem? (i := 120) rfl) rfl
theorem gw_4_128 : Cond.code yX0_alikeAt cX0_alikeAt 4 (some .int) ∈ GL := GL_4 (List.mem_of_getElem? (i := 128) rfl) rfl
theorem gw_4_126 : Cond.instanceMethod yX0_alikeAt ∈ GL := GL_4 (List.mem_of_getElem? (i := 126) rfl) rfl
theorem gw_4_125 : Cond.methodLink RX11 227 yX0_alikeAt ∈ GL := GL_4 (List.mem_of_getElem? (i := 125) rfl) rfl
theorem gw_4_127 : Cond.selects RX0 yX0_alikeAt yX0_alikeAt ∈ GL := GL_4 (List.mem_of_getElem? (i := 127) rfl) rfl
theorem gw_4_145 : Cond.methodLink RX6 32 yX6_lengthOf ∈ GL := GL_4 (List.mem_of_getElem? (i := 145) rfl) rfl
theorem gw_4_144 : Cond.code yX6_isFull cX6_isFull 2 (some .boolean) ∈ GL := GL_4 (List.mem_of_getElem? (i := 144) rfl) rfl
theorem gw_4_143 : Cond.instanceMethod yX6_isFull ∈ GL := GL_4 (List.mem_of_getElem? (i := 143) rfl) rfl
theorem gw_4_141 : Cond.methodLink RX6 36 yX6_isFull ∈ GL := GL_4 (List.mem_of_getElem? (i := 141) rfl) rfl
theorem gw_s_2_3 : Cond.selects RX6 yX6_isFull yX6_isFull ∈ GL := GL_s2 (q := (yX6_isFull, 3)) (List.mem_of_getElem? (i := 3) rfl)
theorem gw_4_157 : Cond.constant RJ6 265 (1431655765) ∈ GL := GL_4 (List.mem_of_getElem? (i := 157) rfl) rfl
theorem gw_4_158 : Cond.constant RJ6 266 (858993459) ∈ GL := GL_4 (List.mem_of_getElem? (i := 158) rfl) rfl
theorem gw_4_159 : Cond.constant RJ6 267 (252645135) ∈ GL := GL_4 (List.mem_of_getElem? (i := 159) rfl) rfl
theorem gw_4_156 : Cond.code yJ6_bitCount_0f7a4 cJ6_bitCount_0f7a4 1 (some .int) ∈ GL := GL_4 (List.mem_of_getElem? (i := 156) rfl) rfl
theorem gw_1_25 : Cond.initialized RJ6 ∈ GL := GL_1 (List.mem_of_getElem? (i := 25) rfl) rfl
theorem gw_4_154 : Cond.methodLink RX6 39 yJ6_bitCount_0f7a4 ∈ GL := GL_4 (List.mem_of_getElem? (i := 154) rfl) rfl
theorem gw_4_160 : Cond.methodLink RX6 44 Lib.Math.max.name ∈ GL := GL_4 (List.mem_of_getElem? (i := 160) rfl) rfl
theorem gw_4_155 : Cond.static yJ6_bitCount_0f7a4 ∈ GL := GL_4 (List.mem_of_getElem? (i := 155) rfl) rfl
theorem gw_4_153 : Cond.code yX6_moreOfRow cX6_moreOfRow 3 (some .int) ∈ GL := GL_4 (List.mem_of_getElem? (i := 153) rfl) rfl
theorem gw_4_152 : Cond.instanceMethod yX6_moreOfRow ∈ GL := GL_4 (List.mem_of_getElem? (i := 152) rfl) rfl
theorem gw_4_150 : Cond.methodLink RX6 53 yX6_moreOfRow ∈ GL := GL_4 (List.mem_of_getElem? (i := 150) rfl) rfl
theorem gw_s_2_4 : Cond.selects RX6 yX6_moreOfRow yX6_moreOfRow ∈ GL := GL_s2 (q := (yX6_moreOfRow, 3)) (List.mem_of_getElem? (i := 4) rfl)
theorem gw_4_169 : Cond.methodLink RX6 50 yX6_sampleOf ∈ GL := GL_4 (List.mem_of_getElem? (i := 169) rfl) rfl
theorem gw_4_168 : Cond.code yX6_moreOfColumn cX6_moreOfColumn 5 (some .int) ∈ GL := GL_4 (List.mem_of_getElem? (i := 168) rfl) rfl
theorem gw_4_167 : Cond.instanceMethod yX6_moreOfColumn ∈ GL := GL_4 (List.mem_of_getElem? (i := 167) rfl) rfl
theorem gw_4_165 : Cond.methodLink RX6 56 yX6_moreOfColumn ∈ GL := GL_4 (List.mem_of_getElem? (i := 165) rfl) rfl
theorem gw_s_2_5 : Cond.selects RX6 yX6_moreOfColumn yX6_moreOfColumn ∈ GL := GL_s2 (q := (yX6_moreOfColumn, 3)) (List.mem_of_getElem? (i := 5) rfl)
theorem gw_4_182 : Cond.code yX6_columnsAbove cX6_columnsAbove 4 (some .int) ∈ GL := GL_4 (List.mem_of_getElem? (i := 182) rfl) rfl
theorem gw_4_140 : Cond.code yX6_full cX6_full 3 (some .int) ∈ GL := GL_4 (List.mem_of_getElem? (i := 140) rfl) rfl
theorem gw_4_164 : Cond.code yX6_greatestColumn cX6_greatestColumn 3 (some .int) ∈ GL := GL_4 (List.mem_of_getElem? (i := 164) rfl) rfl
theorem gw_4_149 : Cond.code yX6_greatestRow cX6_greatestRow 3 (some .int) ∈ GL := GL_4 (List.mem_of_getElem? (i := 149) rfl) rfl
theorem gw_4_178 : Cond.code yX6_rowsAbove cX6_rowsAbove 4 (some .int) ∈ GL := GL_4 (List.mem_of_getElem? (i := 178) rfl) rfl
theorem gw_4_180 : Cond.instanceMethod yX6_columnsAbove ∈ GL := GL_4 (List.mem_of_getElem? (i := 180) rfl) rfl
theorem gw_4_138 : Cond.instanceMethod yX6_full ∈ GL := GL_4 (List.mem_of_getElem? (i := 138) rfl) rfl
theorem gw_4_162 : Cond.instanceMethod yX6_greatestColumn ∈ GL := GL_4 (List.mem_of_getElem? (i := 162) rfl) rfl
theorem gw_4_147 : Cond.instanceMethod yX6_greatestRow ∈ GL := GL_4 (List.mem_of_getElem? (i := 147) rfl) rfl
theorem gw_4_176 : Cond.instanceMethod yX6_rowsAbove ∈ GL := GL_4 (List.mem_of_getElem? (i := 176) rfl) rfl
theorem gw_4_137 : Cond.methodLink RX11 230 yX6_full ∈ GL := GL_4 (List.mem_of_getElem? (i := 137) rfl) rfl
theorem gw_4_146 : Cond.methodLink RX11 233 yX6_greatestRow ∈ GL := GL_4 (List.mem_of_getElem? (i := 146) rfl) rfl
theorem gw_4_161 : Cond.methodLink RX11 236 yX6_greatestColumn ∈ GL := GL_4 (List.mem_of_getElem? (i := 161) rfl) rfl
theorem gw_4_175 : Cond.methodLink RX11 239 yX6_rowsAbove ∈ GL := GL_4 (List.mem_of_getElem? (i := 175) rfl) rfl
theorem gw_4_179 : Cond.methodLink RX11 242 yX6_columnsAbove ∈ GL := GL_4 (List.mem_of_getElem? (i := 179) rfl) rfl
theorem gw_4_181 : Cond.selects RX6 yX6_columnsAbove yX6_columnsAbove ∈ GL := GL_4 (List.mem_of_getElem? (i := 181) rfl) rfl
theorem gw_4_139 : Cond.selects RX6 yX6_full yX6_full ∈ GL := GL_4 (List.mem_of_getElem? (i := 139) rfl) rfl
theorem gw_4_163 : Cond.selects RX6 yX6_greatestColumn yX6_greatestColumn ∈ GL := GL_4 (List.mem_of_getElem? (i := 163) rfl) rfl
theorem gw_4_148 : Cond.selects RX6 yX6_greatestRow yX6_greatestRow ∈ GL := GL_4 (List.mem_of_getElem? (i := 148) rfl) rfl
theorem gw_4_177 : Cond.selects RX6 yX6_rowsAbove yX6_rowsAbove ∈ GL := GL_4 (List.mem_of_getElem? (i := 177) rfl) rfl
theorem gw_4_190 : Cond.code yX0_measureLongest cX0_measureLongest 3 none ∈ GL := GL_4 (List.mem_of_getElem? (i := 190) rfl) rfl
theorem gw_4_188 : Cond.instanceMethod yX0_measureLongest ∈ GL := GL_4 (List.mem_of_getElem? (i := 188) rfl) rfl
theorem gw_4_187 : Cond.methodLink RX11 245 yX0_measureLongest ∈ GL := GL_4 (List.mem_of_getElem? (i := 187) rfl) rfl
theorem gw_4_189 : Cond.selects RX0 yX0_measureLongest yX0_measureLongest ∈ GL := GL_4 (List.mem_of_getElem? (i := 189) rfl) rfl
theorem gw_4_216 : Cond.methodLink RX4 22 arraycopyName ∈ GL := GL_4 (List.mem_of_getElem? (i := 216) rfl) rfl
theorem gw_4_215 : Cond.code yX4_copyFrom cX4_copyFrom 2 none ∈ GL := GL_4 (List.mem_of_getElem? (i := 215) rfl) rfl
theorem gw_4_213 : Cond.instanceMethod yX4_copyFrom ∈ GL := GL_4 (List.mem_of_getElem? (i := 213) rfl) rfl
theorem gw_4_212 : Cond.methodLink RX3 64 yX4_copyFrom ∈ GL := GL_4 (List.mem_of_getElem? (i := 212) rfl) rfl
theorem gw_4_214 : Cond.selects RX4 yX4_copyFrom yX4_copyFrom ∈ GL := GL_4 (List.mem_of_getElem? (i := 214) rfl) rfl
theorem gw_4_226 : Cond.methodLink RX9 47 arraycopyName ∈ GL := GL_4 (List.mem_of_getElem? (i := 226) rfl) rfl
theorem gw_4_207 : Cond.code yX1_copyFrom cX1_copyFrom 2 none ∈ GL := GL_4 (List.mem_of_getElem? (i := 207) rfl) rfl
theorem gw_4_211 : Cond.code yX3_copyFrom cX3_copyFrom 2 none ∈ GL := GL_4 (List.mem_of_getElem? (i := 211) rfl) rfl
theorem gw_4_221 : Cond.code yX6_copyFrom cX6_copyFrom 2 none ∈ GL := GL_4 (List.mem_of_getElem? (i := 221) rfl) rfl
theorem gw_4_203 : Cond.code yX8_copyFrom cX8_copyFrom 2 none ∈ GL := GL_4 (List.mem_of_getElem? (i := 203) rfl) rfl
theorem gw_4_225 : Cond.code yX9_copyFrom cX9_copyFrom 2 none ∈ GL := GL_4 (List.mem_of_getElem? (i := 225) rfl) rfl
theorem gw_4_205 : Cond.instanceMethod yX1_copyFrom ∈ GL := GL_4 (List.mem_of_getElem? (i := 205) rfl) rfl
theorem gw_4_209 : Cond.instanceMethod yX3_copyFrom ∈ GL := GL_4 (List.mem_of_getElem? (i := 209) rfl) rfl
theorem gw_4_219 : Cond.instanceMethod yX6_copyFrom ∈ GL := GL_4 (List.mem_of_getElem? (i := 219) rfl) rfl
theorem gw_4_201 : Cond.instanceMethod yX8_copyFrom ∈ GL := GL_4 (List.mem_of_getElem? (i := 201) rfl) rfl
theorem gw_4_223 : Cond.instanceMethod yX9_copyFrom ∈ GL := GL_4 (List.mem_of_getElem? (i := 223) rfl) rfl
theorem gw_4_199 : Cond.methodLink RX10 187 yX7_copyFrom ∈ GL := GL_4 (List.mem_of_getElem? (i := 199) rfl) rfl
theorem gw_4_200 : Cond.methodLink RX10 200 yX8_copyFrom ∈ GL := GL_4 (List.mem_of_getElem? (i := 200) rfl) rfl
theorem gw_4_204 : Cond.methodLink RX10 203 yX1_copyFrom ∈ GL := GL_4 (List.mem_of_getElem? (i := 204) rfl) rfl
theorem gw_4_208 : Cond.methodLink RX10 206 yX3_copyFrom ∈ GL := GL_4 (List.mem_of_getElem? (i := 208) rfl) rfl
theorem gw_4_217 : Cond.methodLink RX10 209 yX4_copyFrom ∈ GL := GL_4 (List.mem_of_getElem? (i := 217) rfl) rfl
theorem gw_4_218 : Cond.methodLink RX10 212 yX6_copyFrom ∈ GL := GL_4 (List.mem_of_getElem? (i := 218) rfl) rfl
theorem gw_4_222 : Cond.methodLink RX10 215 yX9_copyFrom ∈ GL := GL_4 (List.mem_of_getElem? (i := 222) rfl) rfl
theorem gw_4_206 : Cond.selects RX1 yX1_copyFrom yX1_copyFrom ∈ GL := GL_4 (List.mem_of_getElem? (i := 206) rfl) rfl
theorem gw_4_210 : Cond.selects RX3 yX3_copyFrom yX3_copyFrom ∈ GL := GL_4 (List.mem_of_getElem? (i := 210) rfl) rfl
theorem gw_4_220 : Cond.selects RX6 yX6_copyFrom yX6_copyFrom ∈ GL := GL_4 (List.mem_of_getElem? (i := 220) rfl) rfl
theorem gw_4_202 : Cond.selects RX8 yX8_copyFrom yX8_copyFrom ∈ GL := GL_4 (List.mem_of_getElem? (i := 202) rfl) rfl
theorem gw_4_224 : Cond.selects RX9 yX9_copyFrom yX9_copyFrom ∈ GL := GL_4 (List.mem_of_getElem? (i := 224) rfl) rfl
theorem gw_4_198 : Cond.code yX10_copyFrom cX10_copyFrom 2 none ∈ GL := GL_4 (List.mem_of_getElem? (i := 198) rfl) rfl
theorem gw_4_196 : Cond.instanceMethod yX10_copyFrom ∈ GL := GL_4 (List.mem_of_getElem? (i := 196) rfl) rfl
theorem gw_4_195 : Cond.methodLink RX11 251 yX10_copyFrom ∈ GL := GL_4 (List.mem_of_getElem? (i := 195) rfl) rfl
theorem gw_4_197 : Cond.selects RX10 yX10_copyFrom yX10_copyFrom ∈ GL := GL_4 (List.mem_of_getElem? (i := 197) rfl) rfl
theorem gw_4_235 : Cond.fieldLink RX11 254 "NoiseWatch" "LEAST" "[I" ∈ GL := GL_4 (List.mem_of_getElem? (i := 235) rfl) rfl
theorem gw_4_236 : Cond.fieldLink RX11 258 "NoiseWatch" "MOST" "[I" ∈ GL := GL_4 (List.mem_of_getElem? (i := 236) rfl) rfl
theorem gw_4_237 : Cond.methodLink RX11 261 yX2_setLimits ∈ GL := GL_4 (List.mem_of_getElem? (i := 237) rfl) rfl
theorem gw_4_238 : Cond.methodLink RX11 265 yX1_clear ∈ GL := GL_4 (List.mem_of_getElem? (i := 238) rfl) rfl
theorem gw_4_239 : Cond.methodLink RX11 268 yX1_hear ∈ GL := GL_4 (List.mem_of_getElem? (i := 239) rfl) rfl
theorem gw_5_0 : Cond.methodLink RX11 270 yX2_failures ∈ GL := GL_5 (List.mem_of_getElem? (i := 0) rfl) rfl
theorem gw_5_13 : Cond.methodLink RX1 28 Lib.Math.max.name ∈ GL := GL_5 (List.mem_of_getElem? (i := 13) rfl) rfl
theorem gw_5_12 : Cond.code yX1_raiseTo cX1_raiseTo 2 none ∈ GL := GL_5 (List.mem_of_getElem? (i := 12) rfl) rfl
theorem gw_5_10 : Cond.instanceMethod yX1_raiseTo ∈ GL := GL_5 (List.mem_of_getElem? (i := 10) rfl) rfl
theorem gw_5_9 : Cond.methodLink RX11 287 yX1_raiseTo ∈ GL := GL_5 (List.mem_of_getElem? (i := 9) rfl) rfl
theorem gw_5_11 : Cond.selects RX1 yX1_raiseTo yX1_raiseTo ∈ GL := GL_5 (List.mem_of_getElem? (i := 11) rfl) rfl
theorem gw_5_8 : Cond.code yX11_measurePeaks cX11_measurePeaks 2 none ∈ GL := GL_5 (List.mem_of_getElem? (i := 8) rfl) rfl
theorem gw_5_17 : Cond.code yX11_peaksPass cX11_peaksPass 3 (some .boolean) ∈ GL := GL_5 (List.mem_of_getElem? (i := 17) rfl) rfl
theorem gw_5_7 : Cond.instanceMethod yX11_measurePeaks ∈ GL := GL_5 (List.mem_of_getElem? (i := 7) rfl) rfl
theorem gw_5_16 : Cond.instanceMethod yX11_peaksPass ∈ GL := GL_5 (List.mem_of_getElem? (i := 16) rfl) rfl
theorem gw_5_5 : Cond.methodLink RX11 274 yX11_measurePeaks ∈ GL := GL_5 (List.mem_of_getElem? (i := 5) rfl) rfl
theorem gw_5_14 : Cond.methodLink RX11 277 yX11_peaksPass ∈ GL := GL_5 (List.mem_of_getElem? (i := 14) rfl) rfl
theorem gw_s_2_7 : Cond.selects RX11 yX11_measurePeaks yX11_measurePeaks ∈ GL := GL_s2 (q := (yX11_measurePeaks, 8)) (List.mem_of_getElem? (i := 7) rfl)
theorem gw_s_2_8 : Cond.selects RX11 yX11_peaksPass yX11_peaksPass ∈ GL := GL_s2 (q := (yX11_peaksPass, 8)) (List.mem_of_getElem? (i := 8) rfl)
theorem gw_5_187 : Cond.constantLong RX12 37 (255) ∈ GL := GL_5 (List.mem_of_getElem? (i := 187) rfl) rfl
theorem gw_5_115 : Cond.fieldLink RX12 33 "NoiseWatchModel" "raised" "I" ∈ GL := GL_5 (List.mem_of_getElem? (i := 115) rfl) rfl
theorem gw_5_120 : Cond.fieldLink RX12 42 "NoiseWatchModel" "length" "I" ∈ GL := GL_5 (List.mem_of_getElem? (i := 120) rfl) rfl
theorem gw_5_202 : Cond.code yX12_in cX12_in 3 (some .boolean) ∈ GL := GL_5 (List.mem_of_getElem? (i := 202) rfl) rfl
theorem gw_5_199 : Cond.code yX12_see cX12_see 1 (some .int) ∈ GL := GL_5 (List.mem_of_getElem? (i := 199) rfl) rfl
theorem gw_5_121 : Cond.fieldLink RX12 49 "NoiseWatchModel" "begin" "I" ∈ GL := GL_5 (List.mem_of_getElem? (i := 121) rfl) rfl
theorem gw_5_124 : Cond.fieldLink RX12 52 "NoiseWatchModel" "word" "J" ∈ GL := GL_5 (List.mem_of_getElem? (i := 124) rfl) rfl
theorem gw_5_122 : Cond.fieldLink RX12 56 "NoiseWatchModel" "sort" "I" ∈ GL := GL_5 (List.mem_of_getElem? (i := 122) rfl) rfl
theorem gw_5_123 : Cond.fieldLink RX12 63 "NoiseWatchModel" "value" "I" ∈ GL := GL_5 (List.mem_of_getElem? (i := 123) rfl) rfl
theorem gw_5_198 : Cond.instanceMethod yX12_see ∈ GL := GL_5 (List.mem_of_getElem? (i := 198) rfl) rfl
theorem gw_5_196 : Cond.methodLink RX12 45 yX12_see ∈ GL := GL_5 (List.mem_of_getElem? (i := 196) rfl) rfl
theorem gw_5_200 : Cond.methodLink RX12 59 yX12_in ∈ GL := GL_5 (List.mem_of_getElem? (i := 200) rfl) rfl
theorem gw_s_2_13 : Cond.selects RX12 yX12_see yX12_see ∈ GL := GL_s2 (q := (yX12_see, 22)) (List.mem_of_getElem? (i := 13) rfl)
theorem gw_5_201 : Cond.static yX12_in ∈ GL := GL_5 (List.mem_of_getElem? (i := 201) rfl) rfl
theorem gw_5_125 : Cond.fieldLink RX12 66 "NoiseWatchModel" "wrongAt" "I" ∈ GL := GL_5 (List.mem_of_getElem? (i := 125) rfl) rfl
theorem gw_5_223 : Cond.code yX12_fails cX12_fails 1 (some .boolean) ∈ GL := GL_5 (List.mem_of_getElem? (i := 223) rfl) rfl
theorem gw_5_215 : Cond.code yX12_isBad cX12_isBad 3 none ∈ GL := GL_5 (List.mem_of_getElem? (i := 215) rfl) rfl
theorem gw_5_195 : Cond.code yX12_token cX12_token 3 none ∈ GL := GL_5 (List.mem_of_getElem? (i := 195) rfl) rfl
theorem gw_5_129 : Cond.fieldLink RX12 79 "NoiseWatchModel" "read" "I" ∈ GL := GL_5 (List.mem_of_getElem? (i := 129) rfl) rfl
theorem gw_5_222 : Cond.instanceMethod yX12_fails ∈ GL := GL_5 (List.mem_of_getElem? (i := 222) rfl) rfl
theorem gw_5_214 : Cond.instanceMethod yX12_isBad ∈ GL := GL_5 (List.mem_of_getElem? (i := 214) rfl) rfl
theorem gw_5_194 : Cond.instanceMethod yX12_token ∈ GL := GL_5 (List.mem_of_getElem? (i := 194) rfl) rfl
theorem gw_5_220 : Cond.methodLink RX12 75 yX12_fails ∈ GL := GL_5 (List.mem_of_getElem? (i := 220) rfl) rfl
theorem gw_5_212 : Cond.methodLink RX12 82 yX12_isBad ∈ GL := GL_5 (List.mem_of_getElem? (i := 212) rfl) rfl
theorem gw_5_192 : Cond.methodLink RX12 86 yX12_token ∈ GL := GL_5 (List.mem_of_getElem? (i := 192) rfl) rfl
theorem gw_s_3_2 : Cond.selects RX12 yX12_fails yX12_fails ∈ GL := GL_s3 (q := (yX12_fails, 22)) (List.mem_of_getElem? (i := 2) rfl)
theorem gw_s_3_0 : Cond.selects RX12 yX12_isBad yX12_isBad ∈ GL := GL_s3 (q := (yX12_isBad, 22)) (List.mem_of_getElem? (i := 0) rfl)
theorem gw_s_2_12 : Cond.selects RX12 yX12_token yX12_token ∈ GL := GL_s2 (q := (yX12_token, 22)) (List.mem_of_getElem? (i := 12) rfl)
theorem gw_5_233 : Cond.constantLong RX12 101 (1651073395) ∈ GL := GL_5 (List.mem_of_getElem? (i := 233) rfl) rfl
theorem gw_5_234 : Cond.constantLong RX12 103 (495874302827) ∈ GL := GL_5 (List.mem_of_getElem? (i := 234) rfl) rfl
theorem gw_5_235 : Cond.constantLong RX12 105 (1936024932) ∈ GL := GL_5 (List.mem_of_getElem? (i := 235) rfl) rfl
theorem gw_5_227 : Cond.constantLong RX12 89 (109299962372965) ∈ GL := GL_5 (List.mem_of_getElem? (i := 227) rfl) rfl
theorem gw_5_228 : Cond.constantLong RX12 91 (7106407) ∈ GL := GL_5 (List.mem_of_getElem? (i := 228) rfl) rfl
theorem gw_5_229 : Cond.constantLong RX12 93 (131294707347319) ∈ GL := GL_5 (List.mem_of_getElem? (i := 229) rfl) rfl
theorem gw_5_230 : Cond.constantLong RX12 95 (495873782388) ∈ GL := GL_5 (List.mem_of_getElem? (i := 230) rfl) rfl
theorem gw_5_231 : Cond.constantLong RX12 97 (422726034283) ∈ GL := GL_5 (List.mem_of_getElem? (i := 231) rfl) rfl
theorem gw_5_232 : Cond.constantLong RX12 99 (7304564) ∈ GL := GL_5 (List.mem_of_getElem? (i := 232) rfl) rfl
theorem gw_5_219 : Cond.code yX12_takes cX12_takes 3 (some .boolean) ∈ GL := GL_5 (List.mem_of_getElem? (i := 219) rfl) rfl
theorem gw_5_218 : Cond.instanceMethod yX12_takes ∈ GL := GL_5 (List.mem_of_getElem? (i := 218) rfl) rfl
theorem gw_5_216 : Cond.methodLink RX12 107 yX12_takes ∈ GL := GL_5 (List.mem_of_getElem? (i := 216) rfl) rfl
theorem gw_s_3_1 : Cond.selects RX12 yX12_takes yX12_takes ∈ GL := GL_s3 (q := (yX12_takes, 22)) (List.mem_of_getElem? (i := 1) rfl)
theorem gw_5_238 : Cond.code yX12_leastOf cX12_leastOf 1 (some .int) ∈ GL := GL_5 (List.mem_of_getElem? (i := 238) rfl) rfl
theorem gw_6_1 : Cond.code yX12_mostOf cX12_mostOf 1 (some .int) ∈ GL := GL_6 (List.mem_of_getElem? (i := 1) rfl) rfl
theorem gw_5_226 : Cond.code yX12_settingOf cX12_settingOf 2 (some .int) ∈ GL := GL_5 (List.mem_of_getElem? (i := 226) rfl) rfl
theorem gw_5_211 : Cond.code yX12_stuckLine cX12_stuckLine 4 (some .boolean) ∈ GL := GL_5 (List.mem_of_getElem? (i := 211) rfl) rfl
theorem gw_5_207 : Cond.constantLong RX12 111 (495875089259) ∈ GL := GL_5 (List.mem_of_getElem? (i := 207) rfl) rfl
theorem gw_5_210 : Cond.instanceMethod yX12_stuckLine ∈ GL := GL_5 (List.mem_of_getElem? (i := 210) rfl) rfl
theorem gw_5_208 : Cond.methodLink RX12 113 yX12_stuckLine ∈ GL := GL_5 (List.mem_of_getElem? (i := 208) rfl) rfl
theorem gw_5_224 : Cond.methodLink RX12 116 yX12_settingOf ∈ GL := GL_5 (List.mem_of_getElem? (i := 224) rfl) rfl
theorem gw_5_236 : Cond.methodLink RX12 120 yX12_leastOf ∈ GL := GL_5 (List.mem_of_getElem? (i := 236) rfl) rfl
theorem gw_5_239 : Cond.methodLink RX12 124 yX12_mostOf ∈ GL := GL_5 (List.mem_of_getElem? (i := 239) rfl) rfl
theorem gw_s_2_15 : Cond.selects RX12 yX12_stuckLine yX12_stuckLine ∈ GL := GL_s2 (q := (yX12_stuckLine, 22)) (List.mem_of_getElem? (i := 15) rfl)
theorem gw_5_237 : Cond.static yX12_leastOf ∈ GL := GL_5 (List.mem_of_getElem? (i := 237) rfl) rfl
theorem gw_6_0 : Cond.static yX12_mostOf ∈ GL := GL_6 (List.mem_of_getElem? (i := 0) rfl) rfl
theorem gw_5_225 : Cond.static yX12_settingOf ∈ GL := GL_5 (List.mem_of_getElem? (i := 225) rfl) rfl
theorem gw_5_206 : Cond.code yX12_line cX12_line 5 (some .boolean) ∈ GL := GL_5 (List.mem_of_getElem? (i := 206) rfl) rfl
theorem gw_5_205 : Cond.instanceMethod yX12_line ∈ GL := GL_5 (List.mem_of_getElem? (i := 205) rfl) rfl
theorem gw_5_203 : Cond.methodLink RX12 127 yX12_line ∈ GL := GL_5 (List.mem_of_getElem? (i := 203) rfl) rfl
theorem gw_s_2_14 : Cond.selects RX12 yX12_line yX12_line ∈ GL := GL_s2 (q := (yX12_line, 22)) (List.mem_of_getElem? (i := 14) rfl)
theorem gw_6_20 : Cond.code yX12_isRare cX12_isRare 5 (some .boolean) ∈ GL := GL_6 (List.mem_of_getElem? (i := 20) rfl) rfl
theorem gw_6_16 : Cond.code yX12_power cX12_power 5 (some .long) ∈ GL := GL_6 (List.mem_of_getElem? (i := 16) rfl) rfl
theorem gw_6_19 : Cond.instanceMethod yX12_isRare ∈ GL := GL_6 (List.mem_of_getElem? (i := 19) rfl) rfl
theorem gw_6_14 : Cond.methodLink RX12 130 yX12_power ∈ GL := GL_6 (List.mem_of_getElem? (i := 14) rfl) rfl
theorem gw_6_17 : Cond.methodLink RX12 134 yX12_isRare ∈ GL := GL_6 (List.mem_of_getElem? (i := 17) rfl) rfl
theorem gw_s_3_4 : Cond.selects RX12 yX12_isRare yX12_isRare ∈ GL := GL_s3 (q := (yX12_isRare, 22)) (List.mem_of_getElem? (i := 4) rfl)
theorem gw_6_15 : Cond.static yX12_power ∈ GL := GL_6 (List.mem_of_getElem? (i := 15) rfl) rfl
theorem gw_6_31 : Cond.code yX12_choose cX12_choose 5 (some .long) ∈ GL := GL_6 (List.mem_of_getElem? (i := 31) rfl) rfl
theorem gw_6_29 : Cond.methodLink RX12 138 yX12_choose ∈ GL := GL_6 (List.mem_of_getElem? (i := 29) rfl) rfl
theorem gw_6_30 : Cond.static yX12_choose ∈ GL := GL_6 (List.mem_of_getElem? (i := 30) rfl) rfl
theorem gw_6_28 : Cond.code yX12_tail cX12_tail 6 (some .long) ∈ GL := GL_6 (List.mem_of_getElem? (i := 28) rfl) rfl
theorem gw_6_27 : Cond.instanceMethod yX12_tail ∈ GL := GL_6 (List.mem_of_getElem? (i := 27) rfl) rfl
theorem gw_6_25 : Cond.methodLink RX12 141 yX12_tail ∈ GL := GL_6 (List.mem_of_getElem? (i := 25) rfl) rfl
theorem gw_s_3_6 : Cond.selects RX12 yX12_tail yX12_tail ∈ GL := GL_s3 (q := (yX12_tail, 22)) (List.mem_of_getElem? (i := 6) rfl)
theorem gw_6_38 : Cond.code yX12_halves cX12_halves 5 (some .long) ∈ GL := GL_6 (List.mem_of_getElem? (i := 38) rfl) rfl
theorem gw_6_36 : Cond.methodLink RX12 144 yX12_halves ∈ GL := GL_6 (List.mem_of_getElem? (i := 36) rfl) rfl
theorem gw_6_37 : Cond.static yX12_halves ∈ GL := GL_6 (List.mem_of_getElem? (i := 37) rfl) rfl
theorem gw_6_46 : Cond.code yX12_earned cX12_earned 1 (some .int) ∈ GL := GL_6 (List.mem_of_getElem? (i := 46) rfl) rfl
theorem gw_6_49 : Cond.code yX12_lesser cX12_lesser 2 (some .int) ∈ GL := GL_6 (List.mem_of_getElem? (i := 49) rfl) rfl
theorem gw_6_45 : Cond.instanceMethod yX12_earned ∈ GL := GL_6 (List.mem_of_getElem? (i := 45) rfl) rfl
theorem gw_6_43 : Cond.methodLink RX12 147 yX12_earned ∈ GL := GL_6 (List.mem_of_getElem? (i := 43) rfl) rfl
theorem gw_6_47 : Cond.methodLink RX12 150 yX12_lesser ∈ GL := GL_6 (List.mem_of_getElem? (i := 47) rfl) rfl
theorem gw_s_3_9 : Cond.selects RX12 yX12_earned yX12_earned ∈ GL := GL_s3 (q := (yX12_earned, 22)) (List.mem_of_getElem? (i := 9) rfl)
theorem gw_6_48 : Cond.static yX12_lesser ∈ GL := GL_6 (List.mem_of_getElem? (i := 48) rfl) rfl
theorem gw_6_35 : Cond.code yX12_changes cX12_changes 3 (some .int) ∈ GL := GL_6 (List.mem_of_getElem? (i := 35) rfl) rfl
theorem gw_6_24 : Cond.code yX12_proportion cX12_proportion 3 (some .int) ∈ GL := GL_6 (List.mem_of_getElem? (i := 24) rfl) rfl
theorem gw_6_13 : Cond.code yX12_repeats cX12_repeats 2 (some .int) ∈ GL := GL_6 (List.mem_of_getElem? (i := 13) rfl) rfl
theorem gw_6_53 : Cond.code yX12_rowsLimit cX12_rowsLimit 3 (some .int) ∈ GL := GL_6 (List.mem_of_getElem? (i := 53) rfl) rfl
theorem gw_6_42 : Cond.code yX12_yields cX12_yields 1 (some .int) ∈ GL := GL_6 (List.mem_of_getElem? (i := 42) rfl) rfl
theorem gw_6_34 : Cond.instanceMethod yX12_changes ∈ GL := GL_6 (List.mem_of_getElem? (i := 34) rfl) rfl
theorem gw_6_23 : Cond.instanceMethod yX12_proportion ∈ GL := GL_6 (List.mem_of_getElem? (i := 23) rfl) rfl
theorem gw_6_12 : Cond.instanceMethod yX12_repeats ∈ GL := GL_6 (List.mem_of_getElem? (i := 12) rfl) rfl
theorem gw_6_52 : Cond.instanceMethod yX12_rowsLimit ∈ GL := GL_6 (List.mem_of_getElem? (i := 52) rfl) rfl
theorem gw_6_41 : Cond.instanceMethod yX12_yields ∈ GL := GL_6 (List.mem_of_getElem? (i := 41) rfl) rfl
theorem gw_6_10 : Cond.methodLink RX12 154 yX12_repeats ∈ GL := GL_6 (List.mem_of_getElem? (i := 10) rfl) rfl
theorem gw_6_21 : Cond.methodLink RX12 157 yX12_proportion ∈ GL := GL_6 (List.mem_of_getElem? (i := 21) rfl) rfl
theorem gw_6_32 : Cond.methodLink RX12 160 yX12_changes ∈ GL := GL_6 (List.mem_of_getElem? (i := 32) rfl) rfl
theorem gw_6_39 : Cond.methodLink RX12 163 yX12_yields ∈ GL := GL_6 (List.mem_of_getElem? (i := 39) rfl) rfl
theorem gw_6_50 : Cond.methodLink RX12 166 yX12_rowsLimit ∈ GL := GL_6 (List.mem_of_getElem? (i := 50) rfl) rfl
theorem gw_s_3_7 : Cond.selects RX12 yX12_changes yX12_changes ∈ GL := GL_s3 (q := (yX12_changes, 22)) (List.mem_of_getElem? (i := 7) rfl)
theorem gw_s_3_5 : Cond.selects RX12 yX12_proportion yX12_proportion ∈ GL := GL_s3 (q := (yX12_proportion, 22)) (List.mem_of_getElem? (i := 5) rfl)
theorem gw_s_3_3 : Cond.selects RX12 yX12_repeats yX12_repeats ∈ GL := GL_s3 (q := (yX12_repeats, 22)) (List.mem_of_getElem? (i := 3) rfl)
theorem gw_s_3_10 : Cond.selects RX12 yX12_rowsLimit yX12_rowsLimit ∈ GL := GL_s3 (q := (yX12_rowsLimit, 22)) (List.mem_of_getElem? (i := 10) rfl)
theorem gw_s_3_8 : Cond.selects RX12 yX12_yields yX12_yields ∈ GL := GL_s3 (q := (yX12_yields, 22)) (List.mem_of_getElem? (i := 8) rfl)
theorem gw_6_61 : Cond.code yX12_measure cX12_measure 10 (some .long) ∈ GL := GL_6 (List.mem_of_getElem? (i := 61) rfl) rfl
theorem gw_6_58 : Cond.constantLong RX12 169 (-1) ∈ GL := GL_6 (List.mem_of_getElem? (i := 58) rfl) rfl
theorem gw_6_59 : Cond.methodLink RX12 171 yX12_measure ∈ GL := GL_6 (List.mem_of_getElem? (i := 59) rfl) rfl
theorem gw_6_60 : Cond.static yX12_measure ∈ GL := GL_6 (List.mem_of_getElem? (i := 60) rfl) rfl
theorem gw_6_102 : Cond.constant RX12 175 (1103515245) ∈ GL := GL_6 (List.mem_of_getElem? (i := 102) rfl) rfl
theorem gw_6_101 : Cond.code yX12_drawn cX12_drawn 2 (some .int) ∈ GL := GL_6 (List.mem_of_getElem? (i := 101) rfl) rfl
theorem gw_6_100 : Cond.instanceMethod yX12_drawn ∈ GL := GL_6 (List.mem_of_getElem? (i := 100) rfl) rfl
theorem gw_6_98 : Cond.methodLink RX12 176 yX12_drawn ∈ GL := GL_6 (List.mem_of_getElem? (i := 98) rfl) rfl
theorem gw_s_4_1 : Cond.selects RX12 yX12_drawn yX12_drawn ∈ GL := GL_s4 (q := (yX12_drawn, 22)) (List.mem_of_getElem? (i := 1) rfl)
theorem gw_5_130 : Cond.fieldLink RX12 179 "NoiseWatchModel" "limitRepeats" "I" ∈ GL := GL_5 (List.mem_of_getElem? (i := 130) rfl) rfl
theorem gw_5_131 : Cond.fieldLink RX12 182 "NoiseWatchModel" "limitProportion" "I" ∈ GL := GL_5 (List.mem_of_getElem? (i := 131) rfl) rfl
theorem gw_5_132 : Cond.fieldLink RX12 185 "NoiseWatchModel" "limitChanges" "I" ∈ GL := GL_5 (List.mem_of_getElem? (i := 132) rfl) rfl
theorem gw_5_133 : Cond.fieldLink RX12 188 "NoiseWatchModel" "blockYield" "I" ∈ GL := GL_5 (List.mem_of_getElem? (i := 133) rfl) rfl
theorem gw_6_73 : Cond.code yX12_empties cX12_empties 1 none ∈ GL := GL_6 (List.mem_of_getElem? (i := 73) rfl) rfl
theorem gw_6_77 : Cond.code yX12_forgets cX12_forgets 1 none ∈ GL := GL_6 (List.mem_of_getElem? (i := 77) rfl) rfl
theorem gw_6_72 : Cond.instanceMethod yX12_empties ∈ GL := GL_6 (List.mem_of_getElem? (i := 72) rfl) rfl
theorem gw_6_76 : Cond.instanceMethod yX12_forgets ∈ GL := GL_6 (List.mem_of_getElem? (i := 76) rfl) rfl
theorem gw_6_70 : Cond.methodLink RX12 191 yX12_empties ∈ GL := GL_6 (List.mem_of_getElem? (i := 70) rfl) rfl
theorem gw_6_74 : Cond.methodLink RX12 194 yX12_forgets ∈ GL := GL_6 (List.mem_of_getElem? (i := 74) rfl) rfl
theorem gw_s_3_12 : Cond.selects RX12 yX12_empties yX12_empties ∈ GL := GL_s3 (q := (yX12_empties, 22)) (List.mem_of_getElem? (i := 12) rfl)
theorem gw_s_3_13 : Cond.selects RX12 yX12_forgets yX12_forgets ∈ GL := GL_s3 (q := (yX12_forgets, 22)) (List.mem_of_getElem? (i := 13) rfl)
theorem gw_6_127 : Cond.code yX12_pours cX12_pours 2 none ∈ GL := GL_6 (List.mem_of_getElem? (i := 127) rfl) rfl
theorem gw_6_123 : Cond.constant RX12 197 (65535) ∈ GL := GL_6 (List.mem_of_getElem? (i := 123) rfl) rfl
theorem gw_6_126 : Cond.instanceMethod yX12_pours ∈ GL := GL_6 (List.mem_of_getElem? (i := 126) rfl) rfl
theorem gw_6_124 : Cond.methodLink RX12 198 yX12_pours ∈ GL := GL_6 (List.mem_of_getElem? (i := 124) rfl) rfl
theorem gw_s_4_7 : Cond.selects RX12 yX12_pours yX12_pours ∈ GL := GL_s4 (q := (yX12_pours, 22)) (List.mem_of_getElem? (i := 7) rfl)
theorem gw_6_122 : Cond.code yX12_blocks cX12_blocks 4 none ∈ GL := GL_6 (List.mem_of_getElem? (i := 122) rfl) rfl
theorem gw_6_110 : Cond.code yX12_comesToHistory cX12_comesToHistory 3 none ∈ GL := GL_6 (List.mem_of_getElem? (i := 110) rfl) rfl
theorem gw_6_114 : Cond.code yX12_comesToRow cX12_comesToRow 3 none ∈ GL := GL_6 (List.mem_of_getElem? (i := 114) rfl) rfl
theorem gw_6_118 : Cond.code yX12_tests cX12_tests 3 (some .int) ∈ GL := GL_6 (List.mem_of_getElem? (i := 118) rfl) rfl
theorem gw_6_121 : Cond.instanceMethod yX12_blocks ∈ GL := GL_6 (List.mem_of_getElem? (i := 121) rfl) rfl
theorem gw_6_109 : Cond.instanceMethod yX12_comesToHistory ∈ GL := GL_6 (List.mem_of_getElem? (i := 109) rfl) rfl
theorem gw_6_113 : Cond.instanceMethod yX12_comesToRow ∈ GL := GL_6 (List.mem_of_getElem? (i := 113) rfl) rfl
theorem gw_6_117 : Cond.instanceMethod yX12_tests ∈ GL := GL_6 (List.mem_of_getElem? (i := 117) rfl) rfl
theorem gw_6_107 : Cond.methodLink RX12 201 yX12_comesToHistory ∈ GL := GL_6 (List.mem_of_getElem? (i := 107) rfl) rfl
theorem gw_6_111 : Cond.methodLink RX12 205 yX12_comesToRow ∈ GL := GL_6 (List.mem_of_getElem? (i := 111) rfl) rfl
theorem gw_6_115 : Cond.methodLink RX12 208 yX12_tests ∈ GL := GL_6 (List.mem_of_getElem? (i := 115) rfl) rfl
theorem gw_6_119 : Cond.methodLink RX12 211 yX12_blocks ∈ GL := GL_6 (List.mem_of_getElem? (i := 119) rfl) rfl
theorem gw_s_4_6 : Cond.selects RX12 yX12_blocks yX12_blocks ∈ GL := GL_s4 (q := (yX12_blocks, 22)) (List.mem_of_getElem? (i := 6) rfl)
theorem gw_s_4_3 : Cond.selects RX12 yX12_comesToHistory yX12_comesToHistory ∈ GL := GL_s4 (q := (yX12_comesToHistory, 22)) (List.mem_of_getElem? (i := 3) rfl)
theorem gw_s_4_4 : Cond.selects RX12 yX12_comesToRow yX12_comesToRow ∈ GL := GL_s4 (q := (yX12_comesToRow, 22)) (List.mem_of_getElem? (i := 4) rfl)
theorem gw_s_4_5 : Cond.selects RX12 yX12_tests yX12_tests ∈ GL := GL_s4 (q := (yX12_tests, 22)) (List.mem_of_getElem? (i := 5) rfl)
theorem gw_6_69 : Cond.code yX12_starts cX12_starts 2 none ∈ GL := GL_6 (List.mem_of_getElem? (i := 69) rfl) rfl
theorem gw_6_68 : Cond.instanceMethod yX12_starts ∈ GL := GL_6 (List.mem_of_getElem? (i := 68) rfl) rfl
theorem gw_6_66 : Cond.methodLink RX12 214 yX12_starts ∈ GL := GL_6 (List.mem_of_getElem? (i := 66) rfl) rfl
theorem gw_s_3_11 : Cond.selects RX12 yX12_starts yX12_starts ∈ GL := GL_s3 (q := (yX12_starts, 22)) (List.mem_of_getElem? (i := 11) rfl)
theorem gw_6_106 : Cond.code yX12_hears cX12_hears 4 (some .boolean) ∈ GL := GL_6 (List.mem_of_getElem? (i := 106) rfl) rfl
theorem gw_6_93 : Cond.code yX12_laysLimits cX12_laysLimits 1 none ∈ GL := GL_6 (List.mem_of_getElem? (i := 93) rfl) rfl
theorem gw_6_97 : Cond.code yX12_sample cX12_sample 4 (some .int) ∈ GL := GL_6 (List.mem_of_getElem? (i := 97) rfl) rfl
theorem gw_6_105 : Cond.instanceMethod yX12_hears ∈ GL := GL_6 (List.mem_of_getElem? (i := 105) rfl) rfl
theorem gw_6_92 : Cond.instanceMethod yX12_laysLimits ∈ GL := GL_6 (List.mem_of_getElem? (i := 92) rfl) rfl
theorem gw_6_96 : Cond.instanceMethod yX12_sample ∈ GL := GL_6 (List.mem_of_getElem? (i := 96) rfl) rfl
theorem gw_6_90 : Cond.methodLink RX12 217 yX12_laysLimits ∈ GL := GL_6 (List.mem_of_getElem? (i := 90) rfl) rfl
theorem gw_6_94 : Cond.methodLink RX12 220 yX12_sample ∈ GL := GL_6 (List.mem_of_getElem? (i := 94) rfl) rfl
theorem gw_6_103 : Cond.methodLink RX12 223 yX12_hears ∈ GL := GL_6 (List.mem_of_getElem? (i := 103) rfl) rfl
theorem gw_s_4_2 : Cond.selects RX12 yX12_hears yX12_hears ∈ GL := GL_s4 (q := (yX12_hears, 22)) (List.mem_of_getElem? (i := 2) rfl)
theorem gw_s_3_15 : Cond.selects RX12 yX12_laysLimits yX12_laysLimits ∈ GL := GL_s3 (q := (yX12_laysLimits, 22)) (List.mem_of_getElem? (i := 15) rfl)
theorem gw_s_4_0 : Cond.selects RX12 yX12_sample yX12_sample ∈ GL := GL_s4 (q := (yX12_sample, 22)) (List.mem_of_getElem? (i := 0) rfl)
theorem gw_6_89 : Cond.code yX12_draws cX12_draws 4 (some .int) ∈ GL := GL_6 (List.mem_of_getElem? (i := 89) rfl) rfl
theorem gw_6_88 : Cond.instanceMethod yX12_draws ∈ GL := GL_6 (List.mem_of_getElem? (i := 88) rfl) rfl
theorem gw_6_86 : Cond.methodLink RX12 227 yX12_draws ∈ GL := GL_6 (List.mem_of_getElem? (i := 86) rfl) rfl
theorem gw_s_3_14 : Cond.selects RX12 yX12_draws yX12_draws ∈ GL := GL_s3 (q := (yX12_draws, 22)) (List.mem_of_getElem? (i := 14) rfl)
theorem gw_6_143 : Cond.code yX12_counted cX12_counted 2 (some .int) ∈ GL := GL_6 (List.mem_of_getElem? (i := 143) rfl) rfl
theorem gw_6_142 : Cond.instanceMethod yX12_counted ∈ GL := GL_6 (List.mem_of_getElem? (i := 142) rfl) rfl
theorem gw_6_140 : Cond.methodLink RX12 230 yX12_counted ∈ GL := GL_6 (List.mem_of_getElem? (i := 140) rfl) rfl
theorem gw_s_4_8 : Cond.selects RX12 yX12_counted yX12_counted ∈ GL := GL_s4 (q := (yX12_counted, 22)) (List.mem_of_getElem? (i := 8) rfl)
theorem gw_6_159 : Cond.code yX12_rowAt cX12_rowAt 3 (some .int) ∈ GL := GL_6 (List.mem_of_getElem? (i := 159) rfl) rfl
theorem gw_6_158 : Cond.instanceMethod yX12_rowAt ∈ GL := GL_6 (List.mem_of_getElem? (i := 158) rfl) rfl
theorem gw_6_156 : Cond.methodLink RX12 233 yX12_rowAt ∈ GL := GL_6 (List.mem_of_getElem? (i := 156) rfl) rfl
theorem gw_s_4_9 : Cond.selects RX12 yX12_rowAt yX12_rowAt ∈ GL := GL_s4 (q := (yX12_rowAt, 22)) (List.mem_of_getElem? (i := 9) rfl)
theorem gw_6_182 : Cond.code yX12_greater cX12_greater 2 (some .int) ∈ GL := GL_6 (List.mem_of_getElem? (i := 182) rfl) rfl
theorem gw_6_179 : Cond.code yX12_late cX12_late 3 (some .int) ∈ GL := GL_6 (List.mem_of_getElem? (i := 179) rfl) rfl
theorem gw_6_178 : Cond.instanceMethod yX12_late ∈ GL := GL_6 (List.mem_of_getElem? (i := 178) rfl) rfl
theorem gw_6_176 : Cond.methodLink RX12 236 yX12_late ∈ GL := GL_6 (List.mem_of_getElem? (i := 176) rfl) rfl
theorem gw_6_180 : Cond.methodLink RX12 239 yX12_greater ∈ GL := GL_6 (List.mem_of_getElem? (i := 180) rfl) rfl
theorem gw_s_4_13 : Cond.selects RX12 yX12_late yX12_late ∈ GL := GL_s4 (q := (yX12_late, 22)) (List.mem_of_getElem? (i := 13) rfl)
theorem gw_6_181 : Cond.static yX12_greater ∈ GL := GL_6 (List.mem_of_getElem? (i := 181) rfl) rfl
theorem gw_5_134 : Cond.fieldLink RX12 242 "NoiseWatchModel" "above" "J" ∈ GL := GL_5 (List.mem_of_getElem? (i := 134) rfl) rfl
theorem gw_5_135 : Cond.fieldLink RX12 245 "NoiseWatchModel" "below" "J" ∈ GL := GL_5 (List.mem_of_getElem? (i := 135) rfl) rfl
theorem gw_6_194 : Cond.code yX12_laysAfter cX12_laysAfter 6 none ∈ GL := GL_6 (List.mem_of_getElem? (i := 194) rfl) rfl
theorem gw_6_193 : Cond.instanceMethod yX12_laysAfter ∈ GL := GL_6 (List.mem_of_getElem? (i := 193) rfl) rfl
theorem gw_6_191 : Cond.methodLink RX12 248 yX12_laysAfter ∈ GL := GL_6 (List.mem_of_getElem? (i := 191) rfl) rfl
theorem gw_s_5_0 : Cond.selects RX12 yX12_laysAfter yX12_laysAfter ∈ GL := GL_s5 (q := (yX12_laysAfter, 22)) (List.mem_of_getElem? (i := 0) rfl)
theorem gw_6_175 : Cond.code yX12_common cX12_common 4 (some .int) ∈ GL := GL_6 (List.mem_of_getElem? (i := 175) rfl) rfl
theorem gw_6_186 : Cond.code yX12_laysCollision cX12_laysCollision 4 none ∈ GL := GL_6 (List.mem_of_getElem? (i := 186) rfl) rfl
theorem gw_6_190 : Cond.code yX12_laysFollow cX12_laysFollow 7 none ∈ GL := GL_6 (List.mem_of_getElem? (i := 190) rfl) rfl
theorem gw_6_174 : Cond.instanceMethod yX12_common ∈ GL := GL_6 (List.mem_of_getElem? (i := 174) rfl) rfl
theorem gw_6_185 : Cond.instanceMethod yX12_laysCollision ∈ GL := GL_6 (List.mem_of_getElem? (i := 185) rfl) rfl
theorem gw_6_189 : Cond.instanceMethod yX12_laysFollow ∈ GL := GL_6 (List.mem_of_getElem? (i := 189) rfl) rfl
theorem gw_6_172 : Cond.methodLink RX12 251 yX12_common ∈ GL := GL_6 (List.mem_of_getElem? (i := 172) rfl) rfl
theorem gw_6_183 : Cond.methodLink RX12 254 yX12_laysCollision ∈ GL := GL_6 (List.mem_of_getElem? (i := 183) rfl) rfl
theorem gw_6_187 : Cond.methodLink RX12 257 yX12_laysFollow ∈ GL := GL_6 (List.mem_of_getElem? (i := 187) rfl) rfl
theorem gw_s_4_12 : Cond.selects RX12 yX12_common yX12_common ∈ GL := GL_s4 (q := (yX12_common, 22)) (List.mem_of_getElem? (i := 12) rfl)
theorem gw_s_4_14 : Cond.selects RX12 yX12_laysCollision yX12_laysCollision ∈ GL := GL_s4 (q := (yX12_laysCollision, 22)) (List.mem_of_getElem? (i := 14) rfl)
theorem gw_s_4_15 : Cond.selects RX12 yX12_laysFollow yX12_laysFollow ∈ GL := GL_s4 (q := (yX12_laysFollow, 22)) (List.mem_of_getElem? (i := 15) rfl)
theorem gw_6_167 : Cond.code yX12_isThere cX12_isThere 3 (some .boolean) ∈ GL := GL_6 (List.mem_of_getElem? (i := 167) rfl) rfl
theorem gw_6_171 : Cond.code yX12_laysBound cX12_laysBound 3 none ∈ GL := GL_6 (List.mem_of_getElem? (i := 171) rfl) rfl
theorem gw_6_166 : Cond.instanceMethod yX12_isThere ∈ GL := GL_6 (List.mem_of_getElem? (i := 166) rfl) rfl
theorem gw_6_170 : Cond.instanceMethod yX12_laysBound ∈ GL := GL_6 (List.mem_of_getElem? (i := 170) rfl) rfl
theorem gw_6_164 : Cond.methodLink RX12 260 yX12_isThere ∈ GL := GL_6 (List.mem_of_getElem? (i := 164) rfl) rfl
theorem gw_6_168 : Cond.methodLink RX12 263 yX12_laysBound ∈ GL := GL_6 (List.mem_of_getElem? (i := 168) rfl) rfl
theorem gw_s_4_10 : Cond.selects RX12 yX12_isThere yX12_isThere ∈ GL := GL_s4 (q := (yX12_isThere, 22)) (List.mem_of_getElem? (i := 10) rfl)
theorem gw_s_4_11 : Cond.selects RX12 yX12_laysBound yX12_laysBound ∈ GL := GL_s4 (q := (yX12_laysBound, 22)) (List.mem_of_getElem? (i := 11) rfl)
theorem gw_6_203 : Cond.constantLong RX12 266 (256) ∈ GL := GL_6 (List.mem_of_getElem? (i := 203) rfl) rfl
theorem gw_6_204 : Cond.constantLong RX12 268 (16) ∈ GL := GL_6 (List.mem_of_getElem? (i := 204) rfl) rfl
theorem gw_6_202 : Cond.code yX12_isHeld cX12_isHeld 4 (some .boolean) ∈ GL := GL_6 (List.mem_of_getElem? (i := 202) rfl) rfl
theorem gw_6_201 : Cond.instanceMethod yX12_isHeld ∈ GL := GL_6 (List.mem_of_getElem? (i := 201) rfl) rfl
theorem gw_6_199 : Cond.methodLink RX12 270 yX12_isHeld ∈ GL := GL_6 (List.mem_of_getElem? (i := 199) rfl) rfl
theorem gw_s_5_1 : Cond.selects RX12 yX12_isHeld yX12_isHeld ∈ GL := GL_s5 (q := (yX12_isHeld, 22)) (List.mem_of_getElem? (i := 1) rfl)
theorem gw_6_216 : Cond.code yX12_isTuple cX12_isTuple 3 (some .boolean) ∈ GL := GL_6 (List.mem_of_getElem? (i := 216) rfl) rfl
theorem gw_6_220 : Cond.code yX12_mostTuple cX12_mostTuple 7 (some .int) ∈ GL := GL_6 (List.mem_of_getElem? (i := 220) rfl) rfl
theorem gw_6_215 : Cond.instanceMethod yX12_isTuple ∈ GL := GL_6 (List.mem_of_getElem? (i := 215) rfl) rfl
theorem gw_6_219 : Cond.instanceMethod yX12_mostTuple ∈ GL := GL_6 (List.mem_of_getElem? (i := 219) rfl) rfl
theorem gw_6_213 : Cond.methodLink RX12 273 yX12_isTuple ∈ GL := GL_6 (List.mem_of_getElem? (i := 213) rfl) rfl
theorem gw_6_217 : Cond.methodLink RX12 276 yX12_mostTuple ∈ GL := GL_6 (List.mem_of_getElem? (i := 217) rfl) rfl
theorem gw_s_5_2 : Cond.selects RX12 yX12_isTuple yX12_isTuple ∈ GL := GL_s5 (q := (yX12_isTuple, 22)) (List.mem_of_getElem? (i := 2) rfl)
theorem gw_s_5_3 : Cond.selects RX12 yX12_mostTuple yX12_mostTuple ∈ GL := GL_s5 (q := (yX12_mostTuple, 22)) (List.mem_of_getElem? (i := 3) rfl)
theorem gw_6_232 : Cond.code yX12_lagged cX12_lagged 5 (some .int) ∈ GL := GL_6 (List.mem_of_getElem? (i := 232) rfl) rfl
theorem gw_6_231 : Cond.instanceMethod yX12_lagged ∈ GL := GL_6 (List.mem_of_getElem? (i := 231) rfl) rfl
theorem gw_6_229 : Cond.methodLink RX12 279 yX12_lagged ∈ GL := GL_6 (List.mem_of_getElem? (i := 229) rfl) rfl
theorem gw_s_5_4 : Cond.selects RX12 yX12_lagged yX12_lagged ∈ GL := GL_s5 (q := (yX12_lagged, 22)) (List.mem_of_getElem? (i := 4) rfl)
theorem gw_7_8 : Cond.code yX12_isWhole cX12_isWhole 2 (some .boolean) ∈ GL := GL_7 (List.mem_of_getElem? (i := 8) rfl) rfl
theorem gw_7_7 : Cond.instanceMethod yX12_isWhole ∈ GL := GL_7 (List.mem_of_getElem? (i := 7) rfl) rfl
theorem gw_7_5 : Cond.methodLink RX12 282 yX12_isWhole ∈ GL := GL_7 (List.mem_of_getElem? (i := 5) rfl) rfl
theorem gw_s_5_6 : Cond.selects RX12 yX12_isWhole yX12_isWhole ∈ GL := GL_s5 (q := (yX12_isWhole, 22)) (List.mem_of_getElem? (i := 6) rfl)
theorem gw_7_16 : Cond.code yX12_ofColumn cX12_ofColumn 5 (some .int) ∈ GL := GL_7 (List.mem_of_getElem? (i := 16) rfl) rfl
theorem gw_7_12 : Cond.code yX12_ofRow cX12_ofRow 4 (some .int) ∈ GL := GL_7 (List.mem_of_getElem? (i := 12) rfl) rfl
theorem gw_7_4 : Cond.code yX12_wholeRows cX12_wholeRows 3 (some .int) ∈ GL := GL_7 (List.mem_of_getElem? (i := 4) rfl) rfl
theorem gw_7_15 : Cond.instanceMethod yX12_ofColumn ∈ GL := GL_7 (List.mem_of_getElem? (i := 15) rfl) rfl
theorem gw_7_11 : Cond.instanceMethod yX12_ofRow ∈ GL := GL_7 (List.mem_of_getElem? (i := 11) rfl) rfl
theorem gw_7_3 : Cond.instanceMethod yX12_wholeRows ∈ GL := GL_7 (List.mem_of_getElem? (i := 3) rfl) rfl
theorem gw_7_1 : Cond.methodLink RX12 285 yX12_wholeRows ∈ GL := GL_7 (List.mem_of_getElem? (i := 1) rfl) rfl
theorem gw_7_9 : Cond.methodLink RX12 288 yX12_ofRow ∈ GL := GL_7 (List.mem_of_getElem? (i := 9) rfl) rfl
theorem gw_7_13 : Cond.methodLink RX12 291 yX12_ofColumn ∈ GL := GL_7 (List.mem_of_getElem? (i := 13) rfl) rfl
theorem gw_s_5_8 : Cond.selects RX12 yX12_ofColumn yX12_ofColumn ∈ GL := GL_s5 (q := (yX12_ofColumn, 22)) (List.mem_of_getElem? (i := 8) rfl)
theorem gw_s_5_7 : Cond.selects RX12 yX12_ofRow yX12_ofRow ∈ GL := GL_s5 (q := (yX12_ofRow, 22)) (List.mem_of_getElem? (i := 7) rfl)
theorem gw_s_5_5 : Cond.selects RX12 yX12_wholeRows yX12_wholeRows ∈ GL := GL_s5 (q := (yX12_wholeRows, 22)) (List.mem_of_getElem? (i := 5) rfl)
theorem gw_7_28 : Cond.code yX12_copies cX12_copies 4 none ∈ GL := GL_7 (List.mem_of_getElem? (i := 28) rfl) rfl
theorem gw_7_27 : Cond.instanceMethod yX12_copies ∈ GL := GL_7 (List.mem_of_getElem? (i := 27) rfl) rfl
theorem gw_7_25 : Cond.methodLink RX12 294 yX12_copies ∈ GL := GL_7 (List.mem_of_getElem? (i := 25) rfl) rfl
theorem gw_s_5_9 : Cond.selects RX12 yX12_copies yX12_copies ∈ GL := GL_s5 (q := (yX12_copies, 22)) (List.mem_of_getElem? (i := 9) rfl)
theorem gw_7_32 : Cond.code yX12_back cX12_back 2 (some .int) ∈ GL := GL_7 (List.mem_of_getElem? (i := 32) rfl) rfl
theorem gw_7_31 : Cond.instanceMethod yX12_back ∈ GL := GL_7 (List.mem_of_getElem? (i := 31) rfl) rfl
theorem gw_7_29 : Cond.methodLink RX12 297 yX12_back ∈ GL := GL_7 (List.mem_of_getElem? (i := 29) rfl) rfl
theorem gw_s_5_10 : Cond.selects RX12 yX12_back yX12_back ∈ GL := GL_s5 (q := (yX12_back, 22)) (List.mem_of_getElem? (i := 10) rfl)
theorem gw_7_44 : Cond.code yX12_alarms cX12_alarms 7 (some .int) ∈ GL := GL_7 (List.mem_of_getElem? (i := 44) rfl) rfl
theorem gw_7_43 : Cond.instanceMethod yX12_alarms ∈ GL := GL_7 (List.mem_of_getElem? (i := 43) rfl) rfl
theorem gw_7_41 : Cond.methodLink RX12 300 yX12_alarms ∈ GL := GL_7 (List.mem_of_getElem? (i := 41) rfl) rfl
theorem gw_s_5_11 : Cond.selects RX12 yX12_alarms yX12_alarms ∈ GL := GL_s5 (q := (yX12_alarms, 22)) (List.mem_of_getElem? (i := 11) rfl)
theorem gw_7_60 : Cond.code yX12_copiesText cX12_copiesText 4 none ∈ GL := GL_7 (List.mem_of_getElem? (i := 60) rfl) rfl
theorem gw_7_59 : Cond.instanceMethod yX12_copiesText ∈ GL := GL_7 (List.mem_of_getElem? (i := 59) rfl) rfl
theorem gw_7_57 : Cond.methodLink RX12 303 yX12_copiesText ∈ GL := GL_7 (List.mem_of_getElem? (i := 57) rfl) rfl
theorem gw_s_5_12 : Cond.selects RX12 yX12_copiesText yX12_copiesText ∈ GL := GL_s5 (q := (yX12_copiesText, 22)) (List.mem_of_getElem? (i := 12) rfl)
end mp_10_gl
section mp_10_str
/-- a String that is returned -/
abbrev QS (D : va_G) (ca : Nat → ClassId) (q : Nat) (ws : va_W) (A : Nat → Prop) : Array Value → State → Outcome → State → Prop := va_Qr (fun (_ : Unit) => True) (fun _ a t => a = q ∧ va_P D vwCl ws t.heap ∧ va_K D vwCl (TY ca) t ∧ va_D A ws) A
section LIBS
variable {p : Program} {l : Launch} {e : Env} {R : Room} {s : State} {m : MethodId} {args : Array Value} {below : List Frame} {meth : Method} {c : Code} {H : Heap} {locs : List Loc} {cells slots : Nat} {Q : State → Prop} {A : Nat → Prop} {D : va_G} {ca : Nat → ClassId} {zz : Nat → Nat} {cc bytes : ByteArray} {pc : Nat} {ls : Array Slot} {rest st0 As : List Value}
variable {nL maxL n index ci N : Nat} {Ts wsm : List Cond} {own C : String} {y : MethodName} {ret : Option FieldType} {rm : Room} {b : Nat} {wc wn ws wx : va_W} {T : u_T} {fs : List Value} {ρ : Type} {r0 : ρ}
theorem rt_T {v r : Int32} {ty : FieldType} (hx : p.tables.exec = Jvm.exec) (hb : c.code = cc) (hr : meth.sig.returnType = some ty) (hlocks : meth.locks = false) (hK : va_K D vwCl (TY ca) s) (hP : va_P D vwCl ws H) (hD : va_D A ws) (hS : va_S A s.heap H locs) (hQ : Q = MQ below (QI D ca r wn A) args s 0 0 A) (hv : narrow ty (.int v) = .int v) (ev : v = r) (ew : ws = wn) (hdg : decode cc pc = .ok (.ireturn, 1)) : W p l e R s m args below meth c H locs 0 0 Q (F0 m pc ls [.int v]) := by
  subst ev; subst ew; subst hQ
  exact W.zret hx hb hr hv (fun t ht hW => ⟨⟨v, (), rfl, rfl, by rw [ht]; exact hP, va_K.moved hW.alike hK, hD⟩, hS.F ht⟩) hS.2.2 hdg
theorem rt_S {q q' : Nat} {nm : String} (hx : p.tables.exec = Jvm.exec) (hb : c.code = cc) (hr : meth.sig.returnType = some (.object nm)) (hlocks : meth.locks = false) (hK : va_K D vwCl (TY ca) s) (hP : va_P D vwCl ws H) (hD : va_D A ws) (hS : va_S A s.heap H locs) (hQ : Q = MQ below (QS D ca q wn A) args s 0 0 A) (ev : q' = q) (ew : ws = wn) (hdg : decode cc pc = .ok (.areturn, 1)) : W p l e R s m args below meth c H locs 0 0 Q (F0 m pc ls [.ref q']) := by
  subst ev; subst ew; subst hQ
  exact W.aret hx hb hr (Or.inl ⟨nm, rfl⟩) (Or.inr ⟨q', rfl⟩) (fun t ht hW => ⟨⟨(), q', rfl, trivial, rfl, by rw [ht]; exact hP, va_K.moved hW.alike hK, hD⟩, hS.F ht⟩) hS.2.2 hdg
theorem xT_I {r : Int32} {w : Nat} (S : CallFix p m c cc nL s args Ts own) (hM : Met l y wsm rm (PR D ca zz (.ref (zz (10 + w)) :: As) H.size []) (QI D ca r [] (va_A [] H.size)) 0 0 (va_A [] H.size)) (cw : CallW R s args own "java/lang/String" index y bytes maxL ret wsm rm 0 0 n) (hw : w < 10)
    (hK : va_K D vwCl (TY ca) s) (hN : NW s) (hZ : ZS zz A s s.heap) (hA : ∀ q, s.heap.size ≤ q → A q) (hP : va_P D vwCl ws H) (hD : va_D A ws) (hS : va_S A s.heap H locs)
    (hn : As.length = n) (hsz : ls.size = nL) (hst : st0 = As.reverse ++ .ref (zz (10 + w)) :: rest) (hW : (rest.map fun v => v.category).sum ≤ 8) (hdg : decode cc pc = .ok (.invokevirtual index, 3)) (hcr : cells ≤ R.cells ∧ slots ≤ R.slots)
    (kk : ∀ (H1 : Heap) (locs1 : List Loc), va_P D vwCl ws H1 → va_D A ws → va_S A s.heap H1 locs1 → W p l e R s m args below meth c H1 locs1 cells slots Q (F0 m (pc + 3) ls (.int r :: rest))) : W p l e R s m args below meth c H locs cells slots Q (F0 m pc ls st0) := by
  have hFc := va_free (wc := []) hD hS hA [] rfl
  refine va_calli (va_runV (As := As) (rest := rest) S hM cw ⟨PR_blind, vk_recv hZ.2.2.2.2.1 hw hS, pr_mk (va_P_pick (is := []) hP rfl) hK (hD.sub [] rfl rfl) hN hZ hS hFc⟩ rfl hn hsz hst (lv_room hW) hdg hcr) hS (fun q _ h => hFc q h) hFc (fun r' u t H1 locs1 ht hvm hw hB hz1 hk1 hS1 => ?_)
  obtain ⟨hP1, -, -⟩ := hB
  rw [ht] at hP1
  obtain ⟨g1, g2⟩ := wmk_P hP hD [] [] rfl rfl rfl hk1 hP1
  subst hw
  exact kk H1 locs1 g1 g2 hS1
theorem xS_S {q : Nat} (S : CallFix p m c cc nL s args Ts own) (hM : Met l y wsm rm (PR D ca zz As H.size []) (QS D ca q [] (va_A [] H.size)) 0 0 (va_A [] H.size)) (cw : CallB R s args own index y bytes maxL ret wsm rm 0 0 n ∧ (Cond.static y).before args s = true)
    (hK : va_K D vwCl (TY ca) s) (hN : NW s) (hZ : ZS zz A s s.heap) (hA : ∀ q, s.heap.size ≤ q → A q) (hP : va_P D vwCl ws H) (hD : va_D A ws) (hS : va_S A s.heap H locs)
    (hn : As.length = n) (hsz : ls.size = nL) (hst : st0 = As.reverse ++ rest) (hW : (rest.map fun v => v.category).sum ≤ 8) (hdg : decode cc pc = .ok (.invokestatic index, 3)) (hcr : cells ≤ R.cells ∧ slots ≤ R.slots)
    (kk : ∀ (H1 : Heap) (locs1 : List Loc), va_P D vwCl ws H1 → va_D A ws → va_S A s.heap H1 locs1 → W p l e R s m args below meth c H1 locs1 cells slots Q (F0 m (pc + 3) ls (.ref q :: rest))) : W p l e R s m args below meth c H locs cells slots Q (F0 m pc ls st0) := by
  have hFc := va_free (wc := []) hD hS hA [] rfl
  refine va_callr (va_runS (As := As) (rest := rest) S hM cw ⟨PR_blind, pr_mk (va_P_pick (is := []) hP rfl) hK (hD.sub [] rfl rfl) hN hZ hS hFc⟩ rfl hn hsz hst (lv_room hW) hdg hcr) hS (fun q _ h => hFc q h) hFc (fun u ra t H1 locs1 ht hvm hw hB hz1 hk1 hS1 => ?_)
  obtain ⟨hq, hP1, -, -⟩ := hB
  rw [ht] at hP1
  obtain ⟨g1, g2⟩ := wmk_P hP hD [] [] rfl rfl rfl hk1 hP1
  subst hq
  exact kk H1 locs1 g1 g2 hS1
end LIBS
def sch (w k : Nat) : Int32 := (bytS.getD w []).getD k 0
def f_J0_length_8abf5 (w : Nat) : Option Int32 := if w < 10 then some (Int32.ofNat (lenS.getD w 0)) else none
def f_J0_charAt_5068e (w : Nat) (p1 : Int32) : Option Int32 := if w < 10 then (chkin p1 (lenS.getD w 0) <| some (sch w p1.toNatClampNeg)) else none
def f_X5_wordOf (p0 : Int32) : Option Nat := if p0 < 0 ∨ 8 < p0 then some 9 else some p0.toNatClampNeg
theorem sl_J0_length_8abf5 {w : Nat} {r : Int32} (h : f_J0_length_8abf5 w = some r) : w < 10 := by
  unfold f_J0_length_8abf5 at h
  by_cases hw : w < 10
  · exact hw
  · rw [if_neg hw] at h; cases h
theorem sl_J0_charAt_5068e {w : Nat} {p1 r : Int32} (h : f_J0_charAt_5068e w p1 = some r) : w < 10 := by
  unfold f_J0_charAt_5068e at h
  by_cases hw : w < 10
  · exact hw
  · rw [if_neg hw] at h; cases h
theorem sch_ok : ∀ w, w < 10 → ∀ k, k < lenS.getD w 0 → ((sch w k &&& 255).toUInt32 % 65536).toInt32 = sch w k ∧ narrow .char (.int (sch w k)) = .int (sch w k) := by decide +kernel
theorem len_ok : ∀ w, w < 10 → Int32.ofNat (lenS.getD w 0) >>> ((0 : Int32) &&& 31) = Int32.ofNat (lenS.getD w 0) ∧ lenS.getD w 0 < 2 ^ 31 := by decide +kernel
abbrev wq_J3_checkIndex_8e157 : List Cond := Cond.code yJ3_checkIndex_8e157 cJ3_checkIndex_8e157 3 (some .int) :: GL
theorem c_J3_checkIndex_8e157N (l : Launch) (D : va_G) (ca : Nat → ClassId) (zz : Nat → Nat) (sz : Nat) (p0 p1 : Int32) (h0 : ¬ p0 < 0) (h1 : p0 < p1) : Met l yJ3_checkIndex_8e157 wq_J3_checkIndex_8e157 ({ frames := 0, cells := 0, slots := 0, locals := 0 } : Room) (PR D ca zz [.int p0, .int p1, .null] sz []) (QI D ca p0 [] (va_A [] sz)) 0 0 (va_A [] sz) := by
  refine en (y := yJ3_checkIndex_8e157) (wsm := wq_J3_checkIndex_8e157) (av := [.int p0, .int p1, .null]) (cc := cJ3_checkIndex_8e157) (maxL := 3) (ret := (some .int)) (Qf := fun A => QI D ca p0 [] A) (by decide) rfl (Nat.le_of_ble_eq_true rfl) ?_
  intro p e s m args below meth c A Q ls hx hb hr hml hown hts hlocks hnm hA hN hZ hK hQ hP hD hS hl
  refine lv_iload_n hx hb dJ3_checkIndex_8e157_0 rfl (lv_at hl 0 rfl) ?_
  refine lv_if_lt (tgt := 9) hx hb dJ3_checkIndex_8e157_1 (by decide) (fun h => absurd h h0) (fun _ => ?_)
  refine lv_iload_n hx hb dJ3_checkIndex_8e157_4 rfl (lv_at hl 0 rfl) ?_
  refine lv_iload_n hx hb dJ3_checkIndex_8e157_5 rfl (lv_at hl 1 rfl) ?_
  refine lv_icmp_lt (tgt := 16) hx hb dJ3_checkIndex_8e157_6 (by decide) (fun _ => ?_) (fun h => absurd h1 h)
  refine lv_iload_n hx hb dJ3_checkIndex_8e157_16 rfl (lv_at hl 0 rfl) ?_
  exact rt_I hx hb hr hlocks hK hP hD hS hQ rfl rfl dJ3_checkIndex_8e157_17
theorem c_J3_checkIndex_8e157R (l : Launch) (D : va_G) (ca : Nat → ClassId) (zz : Nat → Nat) (sz : Nat) (t : Nat) (p0 p1 : Int32) (h0 : ¬ p0 < 0) (h1 : p0 < p1) : Met l yJ3_checkIndex_8e157 wq_J3_checkIndex_8e157 ({ frames := 0, cells := 0, slots := 0, locals := 0 } : Room) (PR D ca zz [.int p0, .int p1, .ref t] sz []) (QI D ca p0 [] (va_A [] sz)) 0 0 (va_A [] sz) := by
  refine en (y := yJ3_checkIndex_8e157) (wsm := wq_J3_checkIndex_8e157) (av := [.int p0, .int p1, .ref t]) (cc := cJ3_checkIndex_8e157) (maxL := 3) (ret := (some .int)) (Qf := fun A => QI D ca p0 [] A) (by decide) rfl (Nat.le_of_ble_eq_true rfl) ?_
  intro p e s m args below meth c A Q ls hx hb hr hml hown hts hlocks hnm hA hN hZ hK hQ hP hD hS hl
  refine lv_iload_n hx hb dJ3_checkIndex_8e157_0 rfl (lv_at hl 0 rfl) ?_
  refine lv_if_lt (tgt := 9) hx hb dJ3_checkIndex_8e157_1 (by decide) (fun h => absurd h h0) (fun _ => ?_)
  refine lv_iload_n hx hb dJ3_checkIndex_8e157_4 rfl (lv_at hl 0 rfl) ?_
  refine lv_iload_n hx hb dJ3_checkIndex_8e157_5 rfl (lv_at hl 1 rfl) ?_
  refine lv_icmp_lt (tgt := 16) hx hb dJ3_checkIndex_8e157_6 (by decide) (fun _ => ?_) (fun h => absurd h1 h)
  refine lv_iload_n hx hb dJ3_checkIndex_8e157_16 rfl (lv_at hl 0 rfl) ?_
  exact rt_I hx hb hr hlocks hK hP hD hS hQ rfl rfl dJ3_checkIndex_8e157_17
abbrev wq_J0_checkIndex_df160 : List Cond := Cond.code yJ0_checkIndex_df160 cJ0_checkIndex_df160 2 none :: GL
theorem c_J0_checkIndex_df160 (l : Launch) (D : va_G) (ca : Nat → ClassId) (zz : Nat → Nat) (sz : Nat) (p0 p1 : Int32) (h0 : ¬ p0 < 0) (h1 : p0 < p1) : Met l yJ0_checkIndex_df160 wq_J0_checkIndex_df160 ({ frames := 1, cells := 0, slots := 0, locals := 22 } : Room) (PR D ca zz [.int p0, .int p1] sz []) (QV D ca [] (va_A [] sz)) 0 0 (va_A [] sz) := by
  refine en (y := yJ0_checkIndex_df160) (wsm := wq_J0_checkIndex_df160) (av := [.int p0, .int p1]) (cc := cJ0_checkIndex_df160) (maxL := 2) (ret := none) (Qf := fun A => QV D ca [] A) (by decide) rfl (Nat.le_of_ble_eq_true rfl) ?_
  intro p e s m args below meth c A Q ls hx hb hr hml hown hts hlocks hnm hA hN hZ hK hQ hP hD hS hl
  refine lv_iload_n hx hb dJ0_checkIndex_df160_0 rfl (lv_at hl 0 rfl) ?_
  refine lv_iload_n hx hb dJ0_checkIndex_df160_1 rfl (lv_at hl 1 rfl) ?_
  rcases hZ.2.2.2.2.2.2.1 with hq | ⟨t, hq⟩
  · refine va_gets hx hb hq hS hown (hts _ (List.mem_cons_of_mem _ gw_3_74)) (fun _ h9 => h9) dJ0_checkIndex_df160_2 ?_
    refine xS_I (As := [.int p0, .int p1, .null]) (wx := []) ⟨hx, hb, hml, hown, hts⟩ (c_J3_checkIndex_8e157N l D ca zz _ p0 p1 h0 h1) (va_cwS 3 hts (gS gw_3_76 gw_3_77 gw_1_19 gw_3_78) rfl rfl rfl (by decide +kernel) ⟨(Nat.le_of_ble_eq_true rfl), (Nat.le_of_ble_eq_true rfl)⟩) hK hN hZ hA hP hD hS [] [] rfl rfl rfl rfl rfl hl.1 rfl (Nat.le_of_ble_eq_true rfl) dJ0_checkIndex_df160_5 ⟨Nat.zero_le _, Nat.zero_le _⟩ rfl (fun H locs hP hD hS => ?_)
    refine lv_pop hx hb dJ0_checkIndex_df160_8 rfl ?_
    exact rt_V hx hb hr hlocks hK hP hD hS hQ rfl dJ0_checkIndex_df160_9
  · refine va_gets hx hb hq hS hown (hts _ (List.mem_cons_of_mem _ gw_3_74)) (fun _ h9 => h9) dJ0_checkIndex_df160_2 ?_
    refine xS_I (As := [.int p0, .int p1, .ref t]) (wx := []) ⟨hx, hb, hml, hown, hts⟩ (c_J3_checkIndex_8e157R l D ca zz _ t p0 p1 h0 h1) (va_cwS 3 hts (gS gw_3_76 gw_3_77 gw_1_19 gw_3_78) rfl rfl rfl (by decide +kernel) ⟨(Nat.le_of_ble_eq_true rfl), (Nat.le_of_ble_eq_true rfl)⟩) hK hN hZ hA hP hD hS [] [] rfl rfl rfl rfl rfl hl.1 rfl (Nat.le_of_ble_eq_true rfl) dJ0_checkIndex_df160_5 ⟨Nat.zero_le _, Nat.zero_le _⟩ rfl (fun H locs hP hD hS => ?_)
    refine lv_pop hx hb dJ0_checkIndex_df160_8 rfl ?_
    exact rt_V hx hb hr hlocks hK hP hD hS hQ rfl dJ0_checkIndex_df160_9
abbrev wq_J1_charAt_3b067 : List Cond := Cond.code yJ1_charAt_3b067 cJ1_charAt_3b067 2 (some .char) :: GL
theorem c_J1_charAt_3b067 (l : Launch) (D : va_G) (ca : Nat → ClassId) (zz : Nat → Nat) (sz : Nat) (w : Nat) (p1 : Int32) (hw : w < 10) (hin : vp_in p1 (lenS.getD w 0)) : Met l yJ1_charAt_3b067 wq_J1_charAt_3b067 ({ frames := 2, cells := 0, slots := 0, locals := 43 } : Room) (PR D ca zz [.ref (zz (30 + w)), .int p1] sz []) (QI D ca (sch w p1.toNatClampNeg) [] (va_A [] sz)) 0 0 (va_A [] sz) := by
  refine en (y := yJ1_charAt_3b067) (wsm := wq_J1_charAt_3b067) (av := [.ref (zz (30 + w)), .int p1]) (cc := cJ1_charAt_3b067) (maxL := 2) (ret := (some .char)) (Qf := fun A => QI D ca (sch w p1.toNatClampNeg) [] A) (by decide) rfl (Nat.le_of_ble_eq_true rfl) ?_
  intro p e s m args below meth c A Q ls hx hb hr hml hown hts hlocks hnm hA hN hZ hK hQ hP hD hS hl
  have hT := (hZ.2.2.2.2.1.1 w hw).2.2.2
  have hlt : p1.toNatClampNeg < lenS.getD w 0 := Nat.not_le.mp fun q => hin (Or.inr q)
  have h0 : ¬ p1 < 0 := fun q => hin (Or.inl q)
  have h1 : p1 < Int32.ofNat (lenS.getD w 0) := by
    obtain ⟨j, hj, e⟩ := nI_of h0
    rw [e, nI_clamp hj] at hlt
    rw [e]
    exact nI_lt hlt (len_ok w hw).2
  refine lv_iload_n hx hb dJ1_charAt_3b067_0 rfl (lv_at hl 1 rfl) ?_
  refine lv_aload_n hx hb dJ1_charAt_3b067_1 rfl (lv_at hl 0 rfl) ?_
  refine va_tlen (v := Int32.ofNat (lenS.getD w 0)) hx hb hT hS rfl dJ1_charAt_3b067_2 ?_
  refine xS_V (As := [.int p1, .int (Int32.ofNat (lenS.getD w 0))]) (wx := []) ⟨hx, hb, hml, hown, hts⟩ (c_J0_checkIndex_df160 l D ca zz _ p1 (Int32.ofNat (lenS.getD w 0)) h0 h1) (va_cwS 2 hts (gS gw_3_71 gw_3_72 gw_1_17 gw_3_73) rfl rfl rfl (by decide +kernel) ⟨(Nat.le_of_ble_eq_true rfl), (Nat.le_of_ble_eq_true rfl)⟩) hK hN hZ hA hP hD hS [] [] rfl rfl rfl rfl rfl hl.1 rfl (Nat.le_of_ble_eq_true rfl) dJ1_charAt_3b067_3 ⟨Nat.zero_le _, Nat.zero_le _⟩ rfl (fun H locs hP hD hS => ?_)
  refine lv_aload_n hx hb dJ1_charAt_3b067_6 rfl (lv_at hl 0 rfl) ?_
  refine lv_iload_n hx hb dJ1_charAt_3b067_7 rfl (lv_at hl 1 rfl) ?_
  refine va_tb (v := .int (sch w p1.toNatClampNeg)) hx hb hT hS hin rfl dJ1_charAt_3b067_8 ?_
  refine lv_sipush (v := 255) hx hb dJ1_charAt_3b067_9 rfl ?_
  refine lv_iand hx hb dJ1_charAt_3b067_12 ?_
  refine lv_i2c hx hb dJ1_charAt_3b067_13 (sch_ok w hw _ hlt).1 ?_
  exact rt_T hx hb hr hlocks hK hP hD hS hQ (sch_ok w hw _ hlt).2 rfl rfl dJ1_charAt_3b067_14
abbrev wq_J0_coder_7d493 : List Cond := Cond.code yJ0_coder_7d493 cJ0_coder_7d493 1 (some .byte) :: GL
theorem c_J0_coder_7d493 (l : Launch) (D : va_G) (ca : Nat → ClassId) (zz : Nat → Nat) (sz : Nat) (w : Nat) (hw : w < 10) : Met l yJ0_coder_7d493 wq_J0_coder_7d493 ({ frames := 0, cells := 0, slots := 0, locals := 0 } : Room) (PR D ca zz [.ref (zz (10 + w))] sz []) (QI D ca 0 [] (va_A [] sz)) 0 0 (va_A [] sz) := by
  refine en (y := yJ0_coder_7d493) (wsm := wq_J0_coder_7d493) (av := [.ref (zz (10 + w))]) (cc := cJ0_coder_7d493) (maxL := 1) (ret := (some .byte)) (Qf := fun A => QI D ca 0 [] A) (by decide) rfl (Nat.le_of_ble_eq_true rfl) ?_
  intro p e s m args below meth c A Q ls hx hb hr hml hown hts hlocks hnm hA hN hZ hK hQ hP hD hS hl
  refine va_gets hx hb hZ.2.2.2.2.2.1 hS hown (hts _ (List.mem_cons_of_mem _ gw_3_57)) (fun _ h9 => h9) dJ0_coder_7d493_0 ?_
  refine lv_if_eq (tgt := 13) hx hb dJ0_coder_7d493_3 (by decide) (fun h => absurd h (by decide)) (fun _ => ?_)
  refine lv_aload_n hx hb dJ0_coder_7d493_6 rfl (lv_at hl 0 rfl) ?_
  refine vk_getf hx hb (hZ.2.2.2.2.1.1 w hw).2.1 hS hown (hts _ (List.mem_cons_of_mem _ gw_7_84)) (fun _ h9 => h9) dJ0_coder_7d493_7 ?_
  refine lv_goto (tgt := 14) hx hb dJ0_coder_7d493_10 (by decide) ?_
  exact rt_T hx hb hr hlocks hK hP hD hS hQ (by decide) rfl rfl dJ0_coder_7d493_14
abbrev wq_J0_isLatin1_aae02 : List Cond := Cond.code yJ0_isLatin1_aae02 cJ0_isLatin1_aae02 1 (some .boolean) :: GL
theorem c_J0_isLatin1_aae02 (l : Launch) (D : va_G) (ca : Nat → ClassId) (zz : Nat → Nat) (sz : Nat) (w : Nat) (hw : w < 10) : Met l yJ0_isLatin1_aae02 wq_J0_isLatin1_aae02 ({ frames := 0, cells := 0, slots := 0, locals := 0 } : Room) (PR D ca zz [.ref (zz (10 + w))] sz []) (QI D ca 1 [] (va_A [] sz)) 0 0 (va_A [] sz) := by
  refine en (y := yJ0_isLatin1_aae02) (wsm := wq_J0_isLatin1_aae02) (av := [.ref (zz (10 + w))]) (cc := cJ0_isLatin1_aae02) (maxL := 1) (ret := (some .boolean)) (Qf := fun A => QI D ca 1 [] A) (by decide) rfl (Nat.le_of_ble_eq_true rfl) ?_
  intro p e s m args below meth c A Q ls hx hb hr hml hown hts hlocks hnm hA hN hZ hK hQ hP hD hS hl
  refine va_gets hx hb hZ.2.2.2.2.2.1 hS hown (hts _ (List.mem_cons_of_mem _ gw_3_57)) (fun _ h9 => h9) dJ0_isLatin1_aae02_0 ?_
  refine lv_if_eq (tgt := 17) hx hb dJ0_isLatin1_aae02_3 (by decide) (fun h => absurd h (by decide)) (fun _ => ?_)
  refine lv_aload_n hx hb dJ0_isLatin1_aae02_6 rfl (lv_at hl 0 rfl) ?_
  refine vk_getf hx hb (hZ.2.2.2.2.1.1 w hw).2.1 hS hown (hts _ (List.mem_cons_of_mem _ gw_7_84)) (fun _ h9 => h9) dJ0_isLatin1_aae02_7 ?_
  refine lv_if_ne (tgt := 17) hx hb dJ0_isLatin1_aae02_10 (by decide) (fun h => absurd rfl h) (fun _ => ?_)
  refine lv_iconst (v := 1) hx hb dJ0_isLatin1_aae02_13 rfl ?_
  refine lv_goto (tgt := 18) hx hb dJ0_isLatin1_aae02_14 (by decide) ?_
  exact rt_T hx hb hr hlocks hK hP hD hS hQ (by decide) rfl rfl dJ0_isLatin1_aae02_18
abbrev wq_J0_length_8abf5 : List Cond := Cond.code yJ0_length_8abf5 cJ0_length_8abf5 1 (some .int) :: GL
theorem c_J0_length_8abf5 (l : Launch) (D : va_G) (ca : Nat → ClassId) (zz : Nat → Nat) (sz : Nat) (w : Nat) (r : Int32) (hf : f_J0_length_8abf5 w = some r) : Met l yJ0_length_8abf5 wq_J0_length_8abf5 ({ frames := 1, cells := 0, slots := 0, locals := 20 } : Room) (PR D ca zz [.ref (zz (10 + w))] sz []) (QI D ca r [] (va_A [] sz)) 0 0 (va_A [] sz) := by
  unfold f_J0_length_8abf5 at hf
  by_cases hw : w < 10
  case neg => rw [if_neg hw] at hf; cases hf
  rw [if_pos hw] at hf
  have e_r := Option.some.inj hf
  refine en (y := yJ0_length_8abf5) (wsm := wq_J0_length_8abf5) (av := [.ref (zz (10 + w))]) (cc := cJ0_length_8abf5) (maxL := 1) (ret := (some .int)) (Qf := fun A => QI D ca r [] A) (by decide) rfl (Nat.le_of_ble_eq_true rfl) ?_
  intro p e s m args below meth c A Q ls hx hb hr hml hown hts hlocks hnm hA hN hZ hK hQ hP hD hS hl
  refine lv_aload_n hx hb dJ0_length_8abf5_0 rfl (lv_at hl 0 rfl) ?_
  refine vk_getf hx hb (hZ.2.2.2.2.1.1 w hw).2.2.1 hS hown (hts _ (List.mem_cons_of_mem _ gw_7_83)) (fun _ h9 => h9) dJ0_length_8abf5_1 ?_
  refine va_tlen (v := Int32.ofNat (lenS.getD w 0)) hx hb (hZ.2.2.2.2.1.1 w hw).2.2.2 hS rfl dJ0_length_8abf5_4 ?_
  refine lv_aload_n hx hb dJ0_length_8abf5_5 rfl (lv_at hl 0 rfl) ?_
  refine xT_I (As := []) ⟨hx, hb, hml, hown, hts⟩ (c_J0_coder_7d493 l D ca zz _ w hw) (cwV 0 hts (gV gw_3_53 gw_3_54 gw_3_55 gw_1_17 gw_3_56) rfl rfl rfl (by decide +kernel) ⟨(Nat.le_of_ble_eq_true rfl), (Nat.le_of_ble_eq_true rfl)⟩) hw hK hN hZ hA hP hD hS rfl hl.1 rfl (Nat.le_of_ble_eq_true rfl) dJ0_length_8abf5_6 ⟨Nat.zero_le _, Nat.zero_le _⟩ (fun H locs hP hD hS => ?_)
  refine lv_ishr hx hb dJ0_length_8abf5_9 ?_
  exact rt_I hx hb hr hlocks hK hP hD hS hQ ((len_ok w hw).1.trans e_r) rfl dJ0_length_8abf5_10
abbrev wq_J0_charAt_5068e : List Cond := Cond.code yJ0_charAt_5068e cJ0_charAt_5068e 2 (some .char) :: GL
theorem c_J0_charAt_5068e (l : Launch) (D : va_G) (ca : Nat → ClassId) (zz : Nat → Nat) (sz : Nat) (w : Nat) (p1 : Int32) (r : Int32) (hf : f_J0_charAt_5068e w p1 = some r) : Met l yJ0_charAt_5068e wq_J0_charAt_5068e ({ frames := 3, cells := 0, slots := 0, locals := 64 } : Room) (PR D ca zz [.ref (zz (10 + w)), .int p1] sz []) (QI D ca r [] (va_A [] sz)) 0 0 (va_A [] sz) := by
  unfold f_J0_charAt_5068e at hf
  by_cases hw : w < 10
  case neg => rw [if_neg hw] at hf; cases hf
  rw [if_pos hw] at hf
  obtain ⟨hin, hf⟩ := chkin_el hf
  have e_r := Option.some.inj hf
  have hlt : p1.toNatClampNeg < lenS.getD w 0 := Nat.not_le.mp fun q => hin (Or.inr q)
  refine en (y := yJ0_charAt_5068e) (wsm := wq_J0_charAt_5068e) (av := [.ref (zz (10 + w)), .int p1]) (cc := cJ0_charAt_5068e) (maxL := 2) (ret := (some .char)) (Qf := fun A => QI D ca r [] A) (by decide) rfl (Nat.le_of_ble_eq_true rfl) ?_
  intro p e s m args below meth c A Q ls hx hb hr hml hown hts hlocks hnm hA hN hZ hK hQ hP hD hS hl
  refine lv_aload_n hx hb dJ0_charAt_5068e_0 rfl (lv_at hl 0 rfl) ?_
  refine xT_I (As := []) ⟨hx, hb, hml, hown, hts⟩ (c_J0_isLatin1_aae02 l D ca zz _ w hw) (cwV 0 hts (gV gw_3_64 gw_3_65 gw_3_66 gw_1_17 gw_3_67) rfl rfl rfl (by decide +kernel) ⟨(Nat.le_of_ble_eq_true rfl), (Nat.le_of_ble_eq_true rfl)⟩) hw hK hN hZ hA hP hD hS rfl hl.1 rfl (Nat.le_of_ble_eq_true rfl) dJ0_charAt_5068e_1 ⟨Nat.zero_le _, Nat.zero_le _⟩ (fun H locs hP hD hS => ?_)
  refine lv_if_eq (tgt := 16) hx hb dJ0_charAt_5068e_4 (by decide) (fun h => absurd h (by decide)) (fun _ => ?_)
  refine lv_aload_n hx hb dJ0_charAt_5068e_7 rfl (lv_at hl 0 rfl) ?_
  refine vk_getf hx hb (hZ.2.2.2.2.1.1 w hw).2.2.1 hS hown (hts _ (List.mem_cons_of_mem _ gw_7_83)) (fun _ h9 => h9) dJ0_charAt_5068e_8 ?_
  refine lv_iload_n hx hb dJ0_charAt_5068e_11 rfl (lv_at hl 1 rfl) ?_
  refine xS_I (As := [.ref (zz (30 + w)), .int p1]) (wx := []) ⟨hx, hb, hml, hown, hts⟩ (c_J1_charAt_3b067 l D ca zz _ w p1 hw hin) (va_cwS 2 hts (gS gw_3_68 gw_3_69 gw_1_18 gw_3_70) rfl rfl rfl (by decide +kernel) ⟨(Nat.le_of_ble_eq_true rfl), (Nat.le_of_ble_eq_true rfl)⟩) hK hN hZ hA hP hD hS [] [] rfl rfl rfl rfl rfl hl.1 rfl (Nat.le_of_ble_eq_true rfl) dJ0_charAt_5068e_12 ⟨Nat.zero_le _, Nat.zero_le _⟩ rfl (fun H locs hP hD hS => ?_)
  exact rt_T hx hb hr hlocks hK hP hD hS hQ (sch_ok w hw _ hlt).2 e_r rfl dJ0_charAt_5068e_15
abbrev wq_X5_wordOf : List Cond := Cond.code yX5_wordOf cX5_wordOf 1 (some (.object "java/lang/String")) :: GL
theorem c_X5_wordOf (l : Launch) (D : va_G) (ca : Nat → ClassId) (zz : Nat → Nat) (sz : Nat) (p0 : Int32) (r : Nat) (hf : f_X5_wordOf p0 = some r) : Met l yX5_wordOf wq_X5_wordOf ({ frames := 0, cells := 0, slots := 0, locals := 0 } : Room) (PR D ca zz [.int p0] sz []) (QS D ca (zz (10 + r)) [] (va_A [] sz)) 0 0 (va_A [] sz) := by
  refine en (y := yX5_wordOf) (wsm := wq_X5_wordOf) (av := [.int p0]) (cc := cX5_wordOf) (maxL := 1) (ret := (some (.object "java/lang/String"))) (Qf := fun A => QS D ca (zz (10 + r)) [] A) (by decide) rfl (Nat.le_of_ble_eq_true rfl) ?_
  intro p e s m args below meth c A Q ls hx hb hr hml hown hts hlocks hnm hA hN hZ hK hQ hP hD hS hl
  unfold f_X5_wordOf at hf
  refine lv_iload_n hx hb dX5_wordOf_0 rfl (lv_at hl 0 rfl) ?_
  by_cases hc : p0 < 0 ∨ 8 < p0
  · rw [if_pos hc] at hf
    have e_r := Option.some.inj hf
    refine xtabO (tgt := 79) hx hb dX5_wordOf_1 (a := 0) (b := 8) rfl rfl hc (by decide) ?_
    refine va_ldcS hx hb hown (hZ.2.2.2.2.2.2.2 9 (by decide)) dX5_wordOf_79 ?_
    exact rt_S hx hb hr hlocks hK hP hD hS hQ (by rw [← e_r]) rfl dX5_wordOf_81
  rw [if_neg hc] at hf
  have e_r := Option.some.inj hf
  by_cases hc0 : p0 = 0
  · refine xtabK (tgt := 52) hx hb dX5_wordOf_1 hc0 (by decide) (by decide) rfl (by decide) ?_
    refine va_ldcS hx hb hown (hZ.2.2.2.2.2.2.2 0 (by decide)) dX5_wordOf_52 ?_
    exact rt_S hx hb hr hlocks hK hP hD hS hQ (by rw [← e_r, hc0]; rfl) rfl dX5_wordOf_54
  by_cases hc1 : p0 = 1
  · refine xtabK (tgt := 55) hx hb dX5_wordOf_1 hc1 (by decide) (by decide) rfl (by decide) ?_
    refine va_ldcS hx hb hown (hZ.2.2.2.2.2.2.2 1 (by decide)) dX5_wordOf_55 ?_
    exact rt_S hx hb hr hlocks hK hP hD hS hQ (by rw [← e_r, hc1]; rfl) rfl dX5_wordOf_57
  by_cases hc2 : p0 = 2
  · refine xtabK (tgt := 58) hx hb dX5_wordOf_1 hc2 (by decide) (by decide) rfl (by decide) ?_
    refine va_ldcS hx hb hown (hZ.2.2.2.2.2.2.2 2 (by decide)) dX5_wordOf_58 ?_
    exact rt_S hx hb hr hlocks hK hP hD hS hQ (by rw [← e_r, hc2]; rfl) rfl dX5_wordOf_60
  by_cases hc3 : p0 = 3
  · refine xtabK (tgt := 61) hx hb dX5_wordOf_1 hc3 (by decide) (by decide) rfl (by decide) ?_
    refine va_ldcS hx hb hown (hZ.2.2.2.2.2.2.2 3 (by decide)) dX5_wordOf_61 ?_
    exact rt_S hx hb hr hlocks hK hP hD hS hQ (by rw [← e_r, hc3]; rfl) rfl dX5_wordOf_63
  by_cases hc4 : p0 = 4
  · refine xtabK (tgt := 64) hx hb dX5_wordOf_1 hc4 (by decide) (by decide) rfl (by decide) ?_
    refine va_ldcS hx hb hown (hZ.2.2.2.2.2.2.2 4 (by decide)) dX5_wordOf_64 ?_
    exact rt_S hx hb hr hlocks hK hP hD hS hQ (by rw [← e_r, hc4]; rfl) rfl dX5_wordOf_66
  by_cases hc5 : p0 = 5
  · refine xtabK (tgt := 67) hx hb dX5_wordOf_1 hc5 (by decide) (by decide) rfl (by decide) ?_
    refine va_ldcS hx hb hown (hZ.2.2.2.2.2.2.2 5 (by decide)) dX5_wordOf_67 ?_
    exact rt_S hx hb hr hlocks hK hP hD hS hQ (by rw [← e_r, hc5]; rfl) rfl dX5_wordOf_69
  by_cases hc6 : p0 = 6
  · refine xtabK (tgt := 70) hx hb dX5_wordOf_1 hc6 (by decide) (by decide) rfl (by decide) ?_
    refine va_ldcS hx hb hown (hZ.2.2.2.2.2.2.2 6 (by decide)) dX5_wordOf_70 ?_
    exact rt_S hx hb hr hlocks hK hP hD hS hQ (by rw [← e_r, hc6]; rfl) rfl dX5_wordOf_72
  by_cases hc7 : p0 = 7
  · refine xtabK (tgt := 73) hx hb dX5_wordOf_1 hc7 (by decide) (by decide) rfl (by decide) ?_
    refine va_ldcS hx hb hown (hZ.2.2.2.2.2.2.2 7 (by decide)) dX5_wordOf_73 ?_
    exact rt_S hx hb hr hlocks hK hP hD hS hQ (by rw [← e_r, hc7]; rfl) rfl dX5_wordOf_75
  by_cases hc8 : p0 = 8
  · refine xtabK (tgt := 76) hx hb dX5_wordOf_1 hc8 (by decide) (by decide) rfl (by decide) ?_
    refine va_ldcS hx hb hown (hZ.2.2.2.2.2.2.2 8 (by decide)) dX5_wordOf_76 ?_
    exact rt_S hx hb hr hlocks hK hP hD hS hQ (by rw [← e_r, hc8]; rfl) rfl dX5_wordOf_78
  exfalso
  obtain ⟨j, hj, e⟩ := nI_of (fun q => hc (Or.inl q))
  have h8 : j < 9 := by
    rcases Nat.lt_or_ge j 9 with q | q
    · exact q
    · exact absurd (e ▸ nI_lt (a := 8) (b := j) (by omega) hj) (fun q => hc (Or.inr q))
  match j, h8, e with
  | 0, _, e => exact hc0 e
  | 1, _, e => exact hc1 e
  | 2, _, e => exact hc2 e
  | 3, _, e => exact hc3 e
  | 4, _, e => exact hc4 e
  | 5, _, e => exact hc5 e
  | 6, _, e => exact hc6 e
  | 7, _, e => exact hc7 e
  | 8, _, e => exact hc8 e
  | j + 9, h, _ => exact absurd h (by omega)
end mp_10_str
section mp_11_fX
abbrev V1 : Type := Int32 × Int32 × Int32 × Int32 × Int32 × Int32
abbrev V2 : Type := (Nat → Int64) × Int32 × Int32 × Int32 × Int32
abbrev V4 : Type := (Nat → Int32) × Int32 × Int32
abbrev V7 : Type := (Nat → Int32) × (Nat → Int32) × (Nat → Int32) × (Nat → Int32) × Int32
abbrev V8 : Type := Int32 × Int32 × Int32
abbrev V9 : Type := (Nat → Int32) × Int32 × Int32 × Int32
abbrev V0 : Type := (Nat → Int32) × (Nat → Int32) × Int32 × Int32 × Int32
abbrev V6 : Type := (Nat → Int32) × (Nat → Int32) × Int32
abbrev V3 : Type := V4 × Int32 × Int32 × Int32 × Int32 × Int32 × Int32
abbrev V5 : Type := V7 × (Nat → Int32) × Int32 × Int32 × Int32 × Int32 × Int32 × Int32
abbrev V10 : Type := V7 × V2 × V8 × V1 × V3 × V4 × V6 × V9 × Int32 × Int32 × Int32 × Int32 × Int32 × Int32
abbrev V11 : Type := V10 × V10 × (Nat → Option Nat) × V5 × V0 × V2 × V1 × V1
abbrev V12 : Type := Int32 × (Nat → Int32) × (Nat → Int32) × (Nat → Int32) × Int32 × Int32 × Int32 × Int32 × Int32 × Int64 × Int32 × Int32 × Int32 × (Nat → Int32) × Int32 × Int32 × Int32 × Int32 × Int32 × Int64 × Int64 × (Nat → Int32)
def f_X1_init : Option V1 := some (((0 : Int32), (0 : Int32), (0 : Int32), (0 : Int32), (0 : Int32), (0 : Int32)))
def f_X2_init : Option V2 := some (((fun _ => 0), (0 : Int32), (0 : Int32), (0 : Int32), (0 : Int32)))
def f_X4_init : Option V4 := some (((fun _ => 0), (0 : Int32), (0 : Int32)))
def f_X7_init : Option V7 := some ((stF, (fun _ => 0), (fun _ => 0), (fun _ => 0), (0 : Int32)))
def f_X8_init : Option V8 := some (((0 : Int32), (0 : Int32), (0 : Int32)))
def f_X9_init : Option V9 := some (((fun _ => 0), (0 : Int32), (0 : Int32), (-1 : Int32)))
def f_X0_init : Option V0 := some (((fun _ => 0), (fun _ => 0), (0 : Int32), (0 : Int32), (0 : Int32)))
def f_X6_init : Option V6 := some (((fun _ => 0), (fun _ => 0), (0 : Int32)))
def f_X3_init : Option V3 := bnd1 f_X4_init fun u_2 => some ((u_2, (0 : Int32), (0 : Int32), (0 : Int32), (0 : Int32), (0 : Int32), (0 : Int32)))
def f_X5_init : Option V5 := bnd1 f_X7_init fun u_2 => some ((u_2, (fun _ => 0), (0 : Int32), (0 : Int32), (0 : Int32), (0 : Int32), (0 : Int32), (-1 : Int32)))
def f_X7_valueOf (v0 : V7) (p1 : Int32) : Option (Int32) := if p1 < (0 : Int32) then (some (0 : Int32)) else (if p1 < (9 : Int32) then (chkin p1 9 <| some (v0.1 (p1).toNatClampNeg)) else (some (0 : Int32)))
def fl_X2_leastRepeats_5 (k5 : Int32 → Int32 → Int64 → Int32 → Option (Int32)) (x0 : Int32) (x1 : Int32) (x2 : Int64) (x4 : Int32) : Option (Int32) := if (16 : Int32) ≤ x4 then (some (16 : Int32)) else (bnd (x2 * (Int32.toInt64 x0)) fun x_1 => bnd (((4 : Int32) * (x4 - (1 : Int32))) - x1) fun x_2 => if x_2 < (0 : Int32) then (bnd (x4 + (1 : Int32)) fun x_3 => k5 x0 x1 x_1 x_3) else (if (jlshl (1 : Int64) x_2) < x_1 then (bnd (x4 + (1 : Int32)) fun x_4 => k5 x0 x1 x_1 x_4) else (some x4)))
def fb_X2_leastRepeats_5 : Nat → Int32 → Int32 → Int64 → Int32 → Option (Int32)
  | 0, _, _, _, _ => none
  | n + 1, x0, x1, x2, x4 => fl_X2_leastRepeats_5 (fb_X2_leastRepeats_5 n) x0 x1 x2 x4
def f_X2_leastRepeats (p0 : Int32) (p1 : Int32) : Option (Int32) := fb_X2_leastRepeats_5 FU p0 p1 (1 : Int64) (2 : Int32)
def fl_J7_fill_d0a16_6 (n0 : Nat) (k6 : (Nat → Int64) → Int64 → Int32 → Int32 → Option ((Nat → Int64))) (v0 : (Nat → Int64)) (x1 : Int64) (x3 : Int32) (x4 : Int32) : Option ((Nat → Int64)) := if x4 ≤ x3 then (some v0) else (chkin x3 n0 <| bnd (vp_updL v0 (x3).toNatClampNeg x1) fun y_2 => bnd (x3 + (1 : Int32)) fun x_3 => k6 y_2 x1 x_3 x4)
def fb_J7_fill_d0a16_6 (n0 : Nat) : Nat → (Nat → Int64) → Int64 → Int32 → Int32 → Option ((Nat → Int64))
  | 0, _, _, _, _ => none
  | n + 1, v0, x1, x3, x4 => fl_J7_fill_d0a16_6 n0 (fb_J7_fill_d0a16_6 n0 n) v0 x1 x3 x4
def f_J7_fill_d0a16 (n0 : Nat) (v0 : (Nat → Int64)) (p1 : Int64) : Option ((Nat → Int64)) := bnd (Int32.ofNat n0) fun x_1 => fb_J7_fill_d0a16_6 n0 FU v0 p1 (0 : Int32) x_1
def fl_X2_fill_114 (k114 : V2 → Int32 → Option (V2)) (v0 : V2) (x3 : Int32) : Option (V2) := if x3 < (0 : Int32) then (some v0) else (chkin x3 17 <| chkin (x3 + (1 : Int32)) 17 <| chkin x3 17 <| bnd (vp_updL v0.1 (x3).toNatClampNeg ((v0.1 (x3).toNatClampNeg) + (v0.1 (x3 + (1 : Int32)).toNatClampNeg))) fun y_7 => bnd (x3 + (-1 : Int32)) fun x_8 => k114 ((y_7, v0.2)) x_8)
def fb_X2_fill_114 : Nat → V2 → Int32 → Option (V2)
  | 0, _, _ => none
  | n + 1, v0, x3 => fl_X2_fill_114 (fb_X2_fill_114 n) v0 x3
def fc_X2_fill_102 (v0 : V2) : Option (V2) := bnd (jmin v0.2.1 (15 : Int32)) fun x_5 => bnd (x_5 - (1 : Int32)) fun x_6 => fb_X2_fill_114 FU v0 x_6
def fl_X2_fill_48 (k31 : V2 → Int32 → Int32 → Option (V2)) (k48 : V2 → Int32 → Int32 → Int32 → Option (V2)) (v0 : V2) (x2 : Int32) (x3 : Int32) (x4 : Int32) : Option (V2) := if x4 < (0 : Int32) then (bnd (x3 + (1 : Int32)) fun x_9 => k31 v0 x2 x_9) else (bnd (x4 + (1 : Int32)) fun x_10 => chkin x_10 17 <| chkin x4 17 <| chkin x_10 17 <| bnd (vp_updL v0.1 (x_10).toNatClampNeg ((v0.1 (x_10).toNatClampNeg) + ((v0.1 (x4).toNatClampNeg) * (Int32.toInt64 x2)))) fun y_11 => chkin x4 17 <| chkin x4 17 <| bnd (vp_updL y_11 (x4).toNatClampNeg ((y_11 (x4).toNatClampNeg) * (Int32.toInt64 ((16 : Int32) - x2)))) fun y_12 => bnd (x4 + (-1 : Int32)) fun x_13 => k48 ((y_12, v0.2)) x2 x3 x_13)
def fb_X2_fill_48 (k31 : V2 → Int32 → Int32 → Option (V2)) : Nat → V2 → Int32 → Int32 → Int32 → Option (V2)
  | 0, _, _, _, _ => none
  | n + 1, v0, x2, x3, x4 => fl_X2_fill_48 k31 (fb_X2_fill_48 k31 n) v0 x2 x3 x4
def fl_X2_fill_31 (k31 : V2 → Int32 → Int32 → Option (V2)) (v0 : V2) (x2 : Int32) (x3 : Int32) : Option (V2) := if v0.2.1 ≤ x3 then (fc_X2_fill_102 v0) else (if (15 : Int32) ≤ x3 then (fc_X2_fill_102 v0) else (fb_X2_fill_48 k31 FU v0 x2 x3 x3))
def fb_X2_fill_31 : Nat → V2 → Int32 → Int32 → Option (V2)
  | 0, _, _, _ => none
  | n + 1, v0, x2, x3 => fl_X2_fill_31 (fb_X2_fill_31 n) v0 x2 x3
def f_X2_fill (v0 : V2) (p1 : Int32) (p2 : Int32) : Option (V2) := bnd (jmin p1 (15 : Int32)) fun x_1 => bnd (jmax (0 : Int32) x_1) fun x_2 => bnd1 (f_J7_fill_d0a16 17 v0.1 (0 : Int64)) fun u_3 => chkin (0 : Int32) 17 <| bnd (vp_updL u_3 ((0 : Int32)).toNatClampNeg (1 : Int64)) fun y_4 => fb_X2_fill_31 FU ((y_4, x_2, v0.2.2)) p2 (0 : Int32)
def fl_X2_leastBy_38 (v0 : V2) (k38 : Int32 → Int64 → Int32 → Option (Int32)) (x3 : Int32) (x4 : Int64) (x6 : Int32) : Option (Int32) := if x6 < (1 : Int32) then (some x3) else (chkin x6 17 <| if x4 < (v0.1 (x6).toNatClampNeg) then (some x3) else (bnd (x6 + (-1 : Int32)) fun x_5 => k38 x6 x4 x_5))
def fb_X2_leastBy_38 (v0 : V2) : Nat → Int32 → Int64 → Int32 → Option (Int32)
  | 0, _, _, _ => none
  | n + 1, x3, x4, x6 => fl_X2_leastBy_38 v0 (fb_X2_leastBy_38 v0 n) x3 x4 x6
def f_X2_leastBy (v0 : V2) (p1 : Int32) : Option (Int32) := bnd (((4 : Int32) * v0.2.1) - p1) fun x_1 => bnd (v0.2.1 + (1 : Int32)) fun x_2 => if (0 : Int32) ≤ x_1 then (bnd (jlshl (1 : Int64) x_1) fun x_3 => bnd (jmin v0.2.1 (15 : Int32)) fun x_4 => fb_X2_leastBy_38 v0 FU x_2 x_3 x_4) else (some x_2)
def f_X2_setLimits (v0 : V2) (p1 : Int32) (p2 : Int32) (p3 : Int32) : Option (V2) := bnd1 (f_X2_leastRepeats p1 p2) fun r_1 => bnd1 (f_X2_fill ((v0.1, v0.2.1, r_1, v0.2.2.2)) (p3 - (1 : Int32)) p1) fun u_2 => bnd1 (f_X2_leastBy u_2 p2) fun r_3 => bnd (r_3 + (1 : Int32)) fun x_4 => bnd1 (f_X2_fill ((u_2.1, u_2.2.1, u_2.2.2.1, x_4, u_2.2.2.2.2)) (p3 - (1 : Int32)) (8 : Int32)) fun u_5 => bnd1 (f_X2_leastBy u_5 p2) fun r_6 => some ((u_5.1, u_5.2.1, u_5.2.2.1, u_5.2.2.2.1, r_6))
def f_X8_begin (v0 : V8) (p1 : Int32) : Option (V8) := some ((p1, (0 : Int32), (0 : Int32)))
def f_X1_clear (v0 : V1) : Option (V1) := some (((0 : Int32), (0 : Int32), (0 : Int32), (0 : Int32), (0 : Int32), (0 : Int32)))
def f_X4_clear (v0 : V4) : Option (V4) := some ((v0.1, (0 : Int32), (0 : Int32)))
def f_X3_begin (v0 : V3) : Option (V3) := bnd1 (f_X4_clear v0.1) fun u_1 => some ((u_1, (0 : Int32), (0 : Int32), (0 : Int32), (0 : Int32), (0 : Int32), (0 : Int32)))
def f_X6_clear (v0 : V6) : Option (V6) := some ((v0.1, v0.2.1, (0 : Int32)))
def f_X9_refuse (v0 : V9) (p1 : Int32) (p2 : Int32) : Option (V9) := some ((v0.1, (0 : Int32), p1, p2))
def f_X9_begin (v0 : V9) : Option (V9) := bnd1 (f_X9_refuse v0 (0 : Int32) (-1 : Int32)) fun u_1 => some u_1
def f_X10_begin (v0 : V10) : Option (V10) := bnd1 (f_X7_valueOf v0.1 (0 : Int32)) fun r_1 => bnd1 (f_X7_valueOf v0.1 (1 : Int32)) fun r_2 => bnd1 (f_X7_valueOf v0.1 (2 : Int32)) fun r_3 => bnd1 (f_X2_setLimits v0.2.1 r_1 r_2 r_3) fun u_4 => bnd1 (f_X7_valueOf v0.1 (8 : Int32)) fun r_5 => bnd1 (f_X8_begin v0.2.2.1 r_5) fun u_6 => bnd1 (f_X1_clear v0.2.2.2.1) fun u_7 => bnd1 (f_X3_begin v0.2.2.2.2.1) fun u_8 => bnd1 (f_X4_clear v0.2.2.2.2.2.1) fun u_9 => bnd1 (f_X6_clear v0.2.2.2.2.2.2.1) fun u_10 => bnd1 (f_X9_begin v0.2.2.2.2.2.2.2.1) fun u_11 => some ((v0.1, u_4, u_6, u_7, u_8, u_9, u_10, u_11, (0 : Int32), (0 : Int32), (0 : Int32), (0 : Int32), (0 : Int32), (0 : Int32)))
def f_X10_init : Option V10 := bnd1 f_X7_init fun u_2 => bnd1 f_X2_init fun u_5 => bnd1 f_X8_init fun u_8 => bnd1 f_X1_init fun u_11 => bnd1 f_X3_init fun u_14 => bnd1 f_X4_init fun u_17 => bnd1 f_X6_init fun u_20 => bnd1 f_X9_init fun u_23 => bnd1 (f_X10_begin ((u_2, u_5, u_8, u_11, u_14, u_17, u_20, u_23, (0 : Int32), (0 : Int32), (0 : Int32), (0 : Int32), (0 : Int32), (0 : Int32)))) fun u_25 => some u_25
def f_X11_init : Option V11 := bnd1 f_X10_init fun u_2 => bnd1 f_X10_init fun u_5 => bnd1 f_X5_init fun u_9 => bnd1 f_X0_init fun u_12 => bnd1 f_X2_init fun u_15 => bnd1 f_X1_init fun u_18 => bnd1 f_X1_init fun u_21 => some ((u_2, u_5, (fun _ => none), u_9, u_12, u_15, u_18, u_21))
def f_X9_byteOf (p0 : Int64) (p1 : Int32) : Option (Int32) := some ((Int64.toInt32 (jlushr p0 ((56 : Int32) - ((8 : Int32) * p1)))) &&& (255 : Int32))
def fl_X9_append_46 (k46 : V9 → Int64 → Int32 → Int32 → Option (Int32 × V9)) (v0 : V9) (x1 : Int64) (x3 : Int32) (x4 : Int32) : Option (Int32 × V9) := if x3 ≤ x4 then (bnd (v0.2.1 + x3) fun x_1 => some ((x_1, (v0.1, x_1, v0.2.2)))) else (bnd1 (f_X9_byteOf x1 x4) fun r_2 => chkin (v0.2.1 + x4) 300 <| bnd (upd v0.1 (v0.2.1 + x4).toNatClampNeg r_2) fun y_3 => bnd (x4 + (1 : Int32)) fun x_4 => k46 ((y_3, v0.2)) x1 x3 x_4)
def fb_X9_append_46 : Nat → V9 → Int64 → Int32 → Int32 → Option (Int32 × V9)
  | 0, _, _, _, _ => none
  | n + 1, v0, x1, x3, x4 => fl_X9_append_46 (fb_X9_append_46 n) v0 x1 x3 x4
def fc_X9_append_22 (v0 : V9) (x1 : Int64) (x3 : Int32) : Option (Int32 × V9) := if v0.2.1 < (0 : Int32) then (some (((-1 : Int32), v0))) else (if (v0.2.1 + x3) ≤ (300 : Int32) then (fb_X9_append_46 FU v0 x1 x3 (0 : Int32)) else (some (((-1 : Int32), v0))))
def fl_X9_append_2 (k2 : V9 → Int64 → Int32 → Option (Int32 × V9)) (v0 : V9) (x1 : Int64) (x3 : Int32) : Option (Int32 × V9) := if (8 : Int32) ≤ x3 then (fc_X9_append_22 v0 x1 x3) else (bnd1 (f_X9_byteOf x1 x3) fun r_5 => if r_5 = (0 : Int32) then (fc_X9_append_22 v0 x1 x3) else (bnd (x3 + (1 : Int32)) fun x_6 => k2 v0 x1 x_6))
def fb_X9_append_2 : Nat → V9 → Int64 → Int32 → Option (Int32 × V9)
  | 0, _, _, _ => none
  | n + 1, v0, x1, x3 => fl_X9_append_2 (fb_X9_append_2 n) v0 x1 x3
def f_X9_append (v0 : V9) (p1 : Int64) : Option (Int32 × V9) := fb_X9_append_2 FU v0 p1 (0 : Int32)
def f_X11_tell (v0 : V11) (p1 : Int64) : Option (Int32 × V11) := bnd2 (f_X9_append v0.1.2.2.2.2.2.2.2.1 p1) fun r_1 u_2 => some ((r_1, ((v0.1.1, v0.1.2.1, v0.1.2.2.1, v0.1.2.2.2.1, v0.1.2.2.2.2.1, v0.1.2.2.2.2.2.1, v0.1.2.2.2.2.2.2.1, u_2, v0.1.2.2.2.2.2.2.2.2), v0.2)))
def f_X7_setFirst (v0 : V7) : Option (V7) := bnd (jmin (9 : Int32) (9 : Int32)) fun x_1 => chkcp (0 : Int32) (0 : Int32) x_1 9 9 <| bnd (va_cpy stF v0.1 ((0 : Int32)).toNatClampNeg ((0 : Int32)).toNatClampNeg (x_1).toNatClampNeg) fun y_2 => some ((y_2, v0.2.1, v0.2.2.1, v0.2.2.2.1, (0 : Int32)))
def f_X9_byteAt (v0 : V9) (p1 : Int32) : Option (Int32) := if p1 < (0 : Int32) then (some (-1 : Int32)) else (if v0.2.1 ≤ p1 then (some (-1 : Int32)) else (if p1 < (300 : Int32) then (chkin p1 300 <| some (v0.1 (p1).toNatClampNeg)) else (some (-1 : Int32))))
def f_X5_isBlank (p0 : Int32) : Option (Int32) := if p0 = (32 : Int32) then (some (1 : Int32)) else (if p0 = (10 : Int32) then (some (1 : Int32)) else (some (0 : Int32)))
def f_X5_isLetter (p0 : Int32) : Option (Int32) := if p0 < (97 : Int32) then (some (0 : Int32)) else (if (122 : Int32) < p0 then (some (0 : Int32)) else (some (1 : Int32)))
def fl_X5_passWord_0 (v1 : V9) (k0 : V5 → Option (V5)) (v0 : V5) : Option (V5) := if v1.2.1 ≤ v0.2.2.1 then (some ((v0.1, v0.2.1, v0.2.2.1, (1 : Int32), v0.2.2.2.2))) else (bnd1 (f_X9_byteAt v1 v0.2.2.1) fun r_1 => bnd1 (f_X5_isLetter r_1) fun r_2 => if r_2 = (0 : Int32) then (some ((v0.1, v0.2.1, v0.2.2.1, (1 : Int32), v0.2.2.2.2))) else (bnd (v0.2.2.1 + (1 : Int32)) fun x_3 => k0 ((v0.1, v0.2.1, x_3, v0.2.2.2))))
def fb_X5_passWord_0 (v1 : V9) : Nat → V5 → Option (V5)
  | 0, _ => none
  | n + 1, v0 => fl_X5_passWord_0 v1 (fb_X5_passWord_0 v1 n) v0
def f_X5_passWord (v0 : V5) (v1 : V9) : Option (V5) := fb_X5_passWord_0 v1 FU v0
def f_X5_isDigit (p0 : Int32) : Option (Int32) := if p0 < (48 : Int32) then (some (0 : Int32)) else (if (57 : Int32) < p0 then (some (0 : Int32)) else (some (1 : Int32)))
def fc_X5_passNumber_79 (v1 : V9) (v0 : V5) : Option (V5) := if (4 : Int32) < (v0.2.2.1 - v0.2.2.2.2.1) then (some ((v0.1, v0.2.1, v0.2.2.1, (4 : Int32), v0.2.2.2.2))) else (some ((v0.1, v0.2.1, v0.2.2.1, (2 : Int32), v0.2.2.2.2)))
def fl_X5_passNumber_5 (v1 : V9) (k5 : V5 → Option (V5)) (v0 : V5) : Option (V5) := if v1.2.1 ≤ v0.2.2.1 then (fc_X5_passNumber_79 v1 v0) else (bnd1 (f_X9_byteAt v1 v0.2.2.1) fun r_1 => bnd1 (f_X5_isDigit r_1) fun r_2 => if r_2 = (0 : Int32) then (fc_X5_passNumber_79 v1 v0) else (if (4 : Int32) ≤ (v0.2.2.1 - v0.2.2.2.2.1) then (bnd (v0.2.2.1 + (1 : Int32)) fun x_3 => k5 ((v0.1, v0.2.1, x_3, v0.2.2.2))) else (bnd1 (f_X9_byteAt v1 v0.2.2.1) fun r_4 => bnd (((v0.2.2.2.2.2.1 * (10 : Int32)) + r_4) - (48 : Int32)) fun x_5 => bnd (v0.2.2.1 + (1 : Int32)) fun x_6 => k5 ((v0.1, v0.2.1, x_6, v0.2.2.2.1, v0.2.2.2.2.1, x_5, v0.2.2.2.2.2.2)))))
def fb_X5_passNumber_5 (v1 : V9) : Nat → V5 → Option (V5)
  | 0, _ => none
  | n + 1, v0 => fl_X5_passNumber_5 v1 (fb_X5_passNumber_5 v1 n) v0
def f_X5_passNumber (v0 : V5) (v1 : V9) : Option (V5) := fb_X5_passNumber_5 v1 FU ((v0.1, v0.2.1, v0.2.2.1, v0.2.2.2.1, v0.2.2.2.2.1, (0 : Int32), v0.2.2.2.2.2.2))
def fc_X5_nextToken_38 (v1 : V9) (v0 : V5) : Option (V5) := bnd1 (f_X9_byteAt v1 v0.2.2.1) fun r_1 => if r_1 = (-1 : Int32) then (some ((v0.1, v0.2.1, v0.2.2.1, (0 : Int32), v0.2.2.1, v0.2.2.2.2.2))) else (bnd1 (f_X5_isLetter r_1) fun r_2 => if r_2 = (0 : Int32) then (bnd1 (f_X5_isDigit r_1) fun r_3 => if r_3 = (0 : Int32) then (if r_1 = (59 : Int32) then (bnd (v0.2.2.1 + (1 : Int32)) fun x_4 => some ((v0.1, v0.2.1, x_4, (3 : Int32), v0.2.2.1, v0.2.2.2.2.2))) else (some ((v0.1, v0.2.1, v0.2.2.1, (4 : Int32), v0.2.2.1, v0.2.2.2.2.2)))) else (bnd1 (f_X5_passNumber ((v0.1, v0.2.1, v0.2.2.1, v0.2.2.2.1, v0.2.2.1, v0.2.2.2.2.2)) v1) fun u_5 => some u_5)) else (bnd1 (f_X5_passWord ((v0.1, v0.2.1, v0.2.2.1, v0.2.2.2.1, v0.2.2.1, v0.2.2.2.2.2)) v1) fun u_6 => some u_6))
def fl_X5_nextToken_0 (v1 : V9) (k0 : V5 → Option (V5)) (v0 : V5) : Option (V5) := if v1.2.1 ≤ v0.2.2.1 then (fc_X5_nextToken_38 v1 v0) else (bnd1 (f_X9_byteAt v1 v0.2.2.1) fun r_7 => bnd1 (f_X5_isBlank r_7) fun r_8 => if r_8 = (0 : Int32) then (fc_X5_nextToken_38 v1 v0) else (bnd (v0.2.2.1 + (1 : Int32)) fun x_9 => k0 ((v0.1, v0.2.1, x_9, v0.2.2.2))))
def fb_X5_nextToken_0 (v1 : V9) : Nat → V5 → Option (V5)
  | 0, _ => none
  | n + 1, v0 => fl_X5_nextToken_0 v1 (fb_X5_nextToken_0 v1 n) v0
def f_X5_nextToken (v0 : V5) (v1 : V9) : Option (V5) := fb_X5_nextToken_0 v1 FU v0
def fl_X9_hasWord_15 (v0 : V9) (k15 : Int32 → Nat → Int32 → Option (Int32)) (x1 : Int32) (x3 : Nat) (x4 : Int32) : Option (Int32) := bnd1 (f_J0_length_8abf5 x3) fun r_2 => if r_2 ≤ x4 then (some (1 : Int32)) else (bnd1 (f_X9_byteAt v0 (x1 + x4)) fun r_3 => bnd1 (f_J0_charAt_5068e x3 x4) fun r_4 => if r_3 = r_4 then (bnd (x4 + (1 : Int32)) fun x_5 => k15 x1 x3 x_5) else (some (0 : Int32)))
def fb_X9_hasWord_15 (v0 : V9) : Nat → Int32 → Nat → Int32 → Option (Int32)
  | 0, _, _, _ => none
  | n + 1, x1, x3, x4 => fl_X9_hasWord_15 v0 (fb_X9_hasWord_15 v0 n) x1 x3 x4
def f_X9_hasWord (v0 : V9) (p1 : Int32) (p2 : Int32) (p3 : Nat) : Option (Int32) := bnd1 (f_J0_length_8abf5 p3) fun r_1 => if (p2 - p1) = r_1 then (fb_X9_hasWord_15 v0 FU p1 p3 (0 : Int32)) else (some (0 : Int32))
def fl_X5_settingOf_2 (v0 : V5) (v1 : V9) (k2 : Int32 → Option (Int32)) (x2 : Int32) : Option (Int32) := if (9 : Int32) < x2 then (some (-1 : Int32)) else (bnd1 (f_X5_wordOf x2) fun r_1 => bnd1 (f_X9_hasWord v1 v0.2.2.2.2.1 v0.2.2.1 r_1) fun r_2 => if r_2 = (0 : Int32) then (bnd (x2 + (1 : Int32)) fun x_3 => k2 x_3) else (some x2))
def fb_X5_settingOf_2 (v0 : V5) (v1 : V9) : Nat → Int32 → Option (Int32)
  | 0, _ => none
  | n + 1, x2 => fl_X5_settingOf_2 v0 v1 (fb_X5_settingOf_2 v0 v1 n) x2
def f_X5_settingOf (v0 : V5) (v1 : V9) : Option (Int32) := fb_X5_settingOf_2 v0 v1 FU (0 : Int32)
def f_X5_note (v0 : V5) (p1 : Int32) : Option (V5) := if v0.2.2.2.2.2.2.1 = (0 : Int32) then (some ((v0.1, v0.2.1, v0.2.2.1, v0.2.2.2.1, v0.2.2.2.2.1, v0.2.2.2.2.2.1, p1, v0.2.2.2.2.1))) else (some v0)
def fc_X5_canBe_50 (v0 : V5) (x2 : Int32) : Option (Int32) := if x2 = (1 : Int32) then (chkin (0 : Int32) 3 <| if v0.2.2.2.2.2.1 < (v0.2.1 ((0 : Int32)).toNatClampNeg) then (some (0 : Int32)) else (some (1 : Int32))) else (if x2 = (0 : Int32) then (some (1 : Int32)) else (if (1 : Int32) < v0.2.2.2.2.2.1 then (some (0 : Int32)) else (some (1 : Int32))))
def f_X5_canBe (v0 : V5) (p1 : Int32) (p2 : Int32) : Option (Int32) := if p1 < (0 : Int32) then (fc_X5_canBe_50 v0 p2) else (if (9 : Int32) ≤ p1 then (fc_X5_canBe_50 v0 p2) else (if (9 : Int32) ≤ p1 then (fc_X5_canBe_50 v0 p2) else (chkin p1 9 <| if v0.2.2.2.2.2.1 < (stL (p1).toNatClampNeg) then (some (0 : Int32)) else (chkin p1 9 <| if (stM (p1).toNatClampNeg) < v0.2.2.2.2.2.1 then (some (0 : Int32)) else (some (1 : Int32))))))
def f_X7_addStuck (v0 : V7) (p1 : Int32) (p2 : Int32) (p3 : Int32) : Option (V7) := if v0.2.2.2.2 < (0 : Int32) then (some v0) else (if (4 : Int32) ≤ v0.2.2.2.2 then (some v0) else (chkin v0.2.2.2.2 4 <| bnd (upd v0.2.1 (v0.2.2.2.2).toNatClampNeg p1) fun y_1 => chkin v0.2.2.2.2 4 <| bnd (upd v0.2.2.1 (v0.2.2.2.2).toNatClampNeg p2) fun y_2 => chkin v0.2.2.2.2 4 <| bnd (upd v0.2.2.2.1 (v0.2.2.2.2).toNatClampNeg p3) fun y_3 => bnd (v0.2.2.2.2 + (1 : Int32)) fun x_4 => some ((v0.1, y_1, y_2, y_3, x_4))))
def f_X7_setValue (v0 : V7) (p1 : Int32) (p2 : Int32) : Option (V7) := if p1 < (0 : Int32) then (some v0) else (if (9 : Int32) ≤ p1 then (some v0) else (chkin p1 9 <| bnd (upd v0.1 (p1).toNatClampNeg p2) fun y_1 => some ((y_1, v0.2))))
def f_X5_putNumbers (v0 : V5) (p1 : Int32) : Option (V5) := if p1 = (9 : Int32) then (chkin (0 : Int32) 3 <| chkin (1 : Int32) 3 <| chkin (2 : Int32) 3 <| bnd1 (f_X7_addStuck v0.1 (v0.2.1 ((0 : Int32)).toNatClampNeg) (v0.2.1 ((1 : Int32)).toNatClampNeg) (v0.2.1 ((2 : Int32)).toNatClampNeg)) fun u_2 => some ((u_2, v0.2))) else (chkin (0 : Int32) 3 <| bnd1 (f_X7_setValue v0.1 p1 (v0.2.1 ((0 : Int32)).toNatClampNeg)) fun u_1 => some ((u_1, v0.2)))
def fl_X5_readSetting_66 (v1 : V9) (k66 : V5 → Int32 → Int32 → Int32 → Option (Int32 × V5)) (v0 : V5) (x2 : Int32) (x3 : Int32) (x4 : Int32) : Option (Int32 × V5) := if x3 ≤ x4 then (bnd1 (f_X5_putNumbers v0 x2) fun u_1 => bnd1 (f_X5_nextToken u_1 v1) fun u_2 => if u_2.2.2.2.1 = (3 : Int32) then (some (((1 : Int32), u_2))) else (some (((0 : Int32), u_2)))) else (bnd1 (f_X5_nextToken v0 v1) fun u_3 => if u_3.2.2.2.1 = (2 : Int32) then (bnd1 (f_X5_canBe u_3 x2 x4) fun r_4 => if r_4 = (0 : Int32) then (bnd1 (f_X5_note u_3 (2 : Int32)) fun u_7 => chkin x4 3 <| bnd (upd u_7.2.1 (x4).toNatClampNeg u_7.2.2.2.2.2.1) fun y_8 => bnd (x4 + (1 : Int32)) fun x_9 => k66 ((u_7.1, y_8, u_7.2.2)) x2 x3 x_9) else (chkin x4 3 <| bnd (upd u_3.2.1 (x4).toNatClampNeg u_3.2.2.2.2.2.1) fun y_5 => bnd (x4 + (1 : Int32)) fun x_6 => k66 ((u_3.1, y_5, u_3.2.2)) x2 x3 x_6)) else (some (((0 : Int32), u_3))))
def fb_X5_readSetting_66 (v1 : V9) : Nat → V5 → Int32 → Int32 → Int32 → Option (Int32 × V5)
  | 0, _, _, _, _ => none
  | n + 1, v0, x2, x3, x4 => fl_X5_readSetting_66 v1 (fb_X5_readSetting_66 v1 n) v0 x2 x3 x4
def fc_X5_readSetting_47 (v1 : V9) (v0 : V5) (x2 : Int32) : Option (Int32 × V5) := if x2 = (9 : Int32) then (fb_X5_readSetting_66 v1 FU v0 x2 (3 : Int32) (0 : Int32)) else (fb_X5_readSetting_66 v1 FU v0 x2 (1 : Int32) (0 : Int32))
def fc_X5_readSetting_17 (v1 : V9) (v0 : V5) (t0 : Int32) : Option (Int32 × V5) := if t0 = (-1 : Int32) then (some (((0 : Int32), v0))) else (if t0 = (9 : Int32) then (if v0.1.2.2.2.2 < (4 : Int32) then (fc_X5_readSetting_47 v1 v0 t0) else (bnd1 (f_X5_note v0 (3 : Int32)) fun u_10 => fc_X5_readSetting_47 v1 u_10 t0)) else (fc_X5_readSetting_47 v1 v0 t0))
def f_X5_readSetting (v0 : V5) (v1 : V9) : Option (Int32 × V5) := if v0.2.2.2.1 = (1 : Int32) then (bnd1 (f_X5_settingOf v0 v1) fun r_11 => fc_X5_readSetting_17 v1 v0 r_11) else (fc_X5_readSetting_17 v1 v0 (-1 : Int32))
def fc_X5_read_77 (v1 : V9) (v0 : V5) : Option (Int32 × V5) := if v0.2.2.2.2.2.2.1 = (0 : Int32) then (some (((1 : Int32), v0))) else (some (((0 : Int32), v0)))
def fl_X5_read_29 (v1 : V9) (k29 : V5 → Int32 → Option (Int32 × V5)) (v0 : V5) (x2 : Int32) : Option (Int32 × V5) := if (300 : Int32) ≤ x2 then (fc_X5_read_77 v1 v0) else (if v0.2.2.2.1 = (0 : Int32) then (fc_X5_read_77 v1 v0) else (bnd2 (f_X5_readSetting v0 v1) fun r_3 u_4 => if r_3 = (0 : Int32) then (some (((0 : Int32), (u_4.1, u_4.2.1, u_4.2.2.1, u_4.2.2.2.1, u_4.2.2.2.2.1, u_4.2.2.2.2.2.1, (1 : Int32), u_4.2.2.2.2.1)))) else (bnd1 (f_X5_nextToken u_4 v1) fun u_5 => bnd (x2 + (1 : Int32)) fun x_6 => k29 u_5 x_6)))
def fb_X5_read_29 (v1 : V9) : Nat → V5 → Int32 → Option (Int32 × V5)
  | 0, _, _ => none
  | n + 1, v0, x2 => fl_X5_read_29 v1 (fb_X5_read_29 v1 n) v0 x2
def f_X5_read (v0 : V5) (v1 : V9) : Option (Int32 × V5) := bnd1 (f_X7_setFirst v0.1) fun u_1 => bnd1 (f_X5_nextToken ((u_1, v0.2.1, (0 : Int32), v0.2.2.2.1, v0.2.2.2.2.1, v0.2.2.2.2.2.1, (0 : Int32), (-1 : Int32))) v1) fun u_2 => fb_X5_read_29 v1 FU u_2 (0 : Int32)
def f_X7_copyFrom (v0 : V7) (v1 : V7) : Option (V7) := bnd (jmin (9 : Int32) (9 : Int32)) fun x_1 => chkcp (0 : Int32) (0 : Int32) x_1 9 9 <| bnd (va_cpy v1.1 v0.1 ((0 : Int32)).toNatClampNeg ((0 : Int32)).toNatClampNeg (x_1).toNatClampNeg) fun y_2 => chkcp (0 : Int32) (0 : Int32) (4 : Int32) 4 4 <| bnd (va_cpy v1.2.1 v0.2.1 ((0 : Int32)).toNatClampNeg ((0 : Int32)).toNatClampNeg ((4 : Int32)).toNatClampNeg) fun y_3 => chkcp (0 : Int32) (0 : Int32) (4 : Int32) 4 4 <| bnd (va_cpy v1.2.2.1 v0.2.2.1 ((0 : Int32)).toNatClampNeg ((0 : Int32)).toNatClampNeg ((4 : Int32)).toNatClampNeg) fun y_4 => chkcp (0 : Int32) (0 : Int32) (4 : Int32) 4 4 <| bnd (va_cpy v1.2.2.2.1 v0.2.2.2.1 ((0 : Int32)).toNatClampNeg ((0 : Int32)).toNatClampNeg ((4 : Int32)).toNatClampNeg) fun y_5 => some ((y_2, y_3, y_4, y_5, v1.2.2.2.2))
def f_X11_settings (v0 : V11) : Option (Int32 × V11) := bnd2 (f_X5_read v0.2.2.2.1 v0.1.2.2.2.2.2.2.2.1) fun r_1 u_2 => if r_1 = (0 : Int32) then (bnd1 (f_X9_refuse v0.1.2.2.2.2.2.2.2.1 u_2.2.2.2.2.2.2.1 u_2.2.2.2.2.2.2.2) fun u_5 => some (((-1 : Int32), ((v0.1.1, v0.1.2.1, v0.1.2.2.1, v0.1.2.2.2.1, v0.1.2.2.2.2.1, v0.1.2.2.2.2.2.1, v0.1.2.2.2.2.2.2.1, u_5, v0.1.2.2.2.2.2.2.2.2), v0.2.1, v0.2.2.1, u_2, v0.2.2.2.2)))) else (bnd1 (f_X7_copyFrom v0.1.1 u_2.1) fun u_3 => bnd1 (f_X10_begin ((u_3, v0.1.2))) fun u_4 => some ((u_4.1.2.2.2.2, (u_4, v0.2.1, v0.2.2.1, u_2, v0.2.2.2.2))))
def f_X11_fault (v0 : V11) (p1 : Int32) : Option (Int32) := if p1 = (0 : Int32) then (some v0.1.2.2.2.2.2.2.2.1.2.2.1) else (some v0.1.2.2.2.2.2.2.2.1.2.2.2)
def f_X3_lose (v0 : V3) : Option (V3) := bnd (v0.2.2.2.2.2.2 + v0.1.2.2) fun x_1 => bnd1 (f_X4_clear v0.1) fun u_2 => some ((u_2, (0 : Int32), (0 : Int32), v0.2.2.2.1, v0.2.2.2.2.1, v0.2.2.2.2.2.1, x_1))
def fc_X6_open_45 (v0 : V6) : Option (V6) := if v0.2.2 < (0 : Int32) then (some v0) else (chkin v0.2.2 15 <| bnd (upd v0.1 (v0.2.2).toNatClampNeg (0 : Int32)) fun y_1 => chkin v0.2.2 15 <| bnd (upd v0.2.1 (v0.2.2).toNatClampNeg (0 : Int32)) fun y_2 => bnd (v0.2.2 + (1 : Int32)) fun x_3 => some ((y_1, y_2, x_3)))
def f_X6_open (v0 : V6) : Option (V6) := if v0.2.2 < (15 : Int32) then (fc_X6_open_45 v0) else (chkcp (1 : Int32) (0 : Int32) (14 : Int32) 15 15 <| bnd (va_cpy v0.1 v0.1 ((1 : Int32)).toNatClampNeg ((0 : Int32)).toNatClampNeg ((14 : Int32)).toNatClampNeg) fun y_4 => chkcp (1 : Int32) (0 : Int32) (14 : Int32) 15 15 <| bnd (va_cpy v0.2.1 v0.2.1 ((1 : Int32)).toNatClampNeg ((0 : Int32)).toNatClampNeg ((14 : Int32)).toNatClampNeg) fun y_5 => fc_X6_open_45 ((y_4, y_5, (14 : Int32))))
def f_X10_beginStart (v0 : V10) : Option (V10) := bnd1 (f_X3_lose v0.2.2.2.2.1) fun u_1 => bnd1 (f_X1_clear v0.2.2.2.1) fun u_2 => bnd1 (f_X6_open v0.2.2.2.2.2.2.1) fun u_3 => bnd (v0.2.2.2.2.2.2.2.2.2.2.2.1 + (1 : Int32)) fun x_4 => bnd1 (f_X7_valueOf v0.1 (3 : Int32)) fun r_5 => if r_5 = (0 : Int32) then (some ((v0.1, v0.2.1, v0.2.2.1, u_2, u_1, v0.2.2.2.2.2.1, u_3, v0.2.2.2.2.2.2.2.1, (2 : Int32), v0.2.2.2.2.2.2.2.2.2.1, v0.2.2.2.2.2.2.2.2.2.2.1, x_4, v0.2.2.2.2.2.2.2.2.2.2.2.2.1, (0 : Int32)))) else (some ((v0.1, v0.2.1, v0.2.2.1, u_2, u_1, v0.2.2.2.2.2.1, u_3, v0.2.2.2.2.2.2.2.1, (1 : Int32), v0.2.2.2.2.2.2.2.2.2.1, v0.2.2.2.2.2.2.2.2.2.2.1, x_4, v0.2.2.2.2.2.2.2.2.2.2.2.2.1, (0 : Int32))))
def f_X11_start (v0 : V11) : Option (Int32 × V11) := bnd1 (f_X10_beginStart v0.1) fun u_1 => some ((u_1.2.2.2.2.2.2.2.2.2.2.2.1, (u_1, v0.2)))
def f_X10_turnOff (v0 : V10) : Option (V10) := bnd1 (f_X3_lose v0.2.2.2.2.1) fun u_1 => bnd1 (f_X1_clear v0.2.2.2.1) fun u_2 => some ((v0.1, v0.2.1, v0.2.2.1, u_2, u_1, v0.2.2.2.2.2.1, v0.2.2.2.2.2.2.1, v0.2.2.2.2.2.2.2.1, (0 : Int32), v0.2.2.2.2.2.2.2.2.2))
def f_X11_stop (v0 : V11) : Option (Int32 × V11) := if v0.1.2.2.2.2.2.2.2.2.1 = (0 : Int32) then (some (((0 : Int32), v0))) else (bnd1 (f_X10_turnOff v0.1) fun u_1 => some (((1 : Int32), (u_1, v0.2))))
def f_X8_belowSixteen (v0 : V8) : Option (Int32 × V8) := bnd ((v0.1 * (1103515245 : Int32)) + (12345 : Int32)) fun x_1 => chknz (16 : Int32) <| some (((jushr x_1 (16 : Int32)) - (jushr x_1 (16 : Int32)) / (16 : Int32) * (16 : Int32), (x_1, v0.2)))
def fl_X7_stuckAt_11 (v0 : V7) (k11 : Int32 → Int32 → Int32 → Option (Int32)) (x1 : Int32) (x2 : Int32) (x3 : Int32) : Option (Int32) := if x3 < (0 : Int32) then (some x2) else (chkin x3 4 <| if x1 < (v0.2.1 (x3).toNatClampNeg) then (bnd (x3 + (-1 : Int32)) fun x_3 => k11 x1 x2 x_3) else (chkin x3 4 <| if (v0.2.2.1 (x3).toNatClampNeg) < x1 then (bnd (x3 + (-1 : Int32)) fun x_4 => k11 x1 x2 x_4) else (chkin x3 4 <| some (v0.2.2.2.1 (x3).toNatClampNeg))))
def fb_X7_stuckAt_11 (v0 : V7) : Nat → Int32 → Int32 → Int32 → Option (Int32)
  | 0, _, _, _ => none
  | n + 1, x1, x2, x3 => fl_X7_stuckAt_11 v0 (fb_X7_stuckAt_11 v0 n) x1 x2 x3
def f_X7_stuckAt (v0 : V7) (p1 : Int32) (p2 : Int32) : Option (Int32) := bnd (jmin v0.2.2.2.2 (4 : Int32)) fun x_1 => bnd (x_1 - (1 : Int32)) fun x_2 => fb_X7_stuckAt_11 v0 FU p1 p2 x_2
def fc_X8_next_37 (v1 : V7) (v0 : V8) (x2 : Int32) : Option (Int32 × V8) := bnd1 (f_X7_stuckAt v1 v0.2.1 x2) fun r_4 => bnd (v0.2.1 + (1 : Int32)) fun x_5 => some ((r_4, (v0.1, x_5, r_4)))
def fc_X8_next_36 (v1 : V7) (v0 : V8) (t0 : Int32) : Option (Int32 × V8) := fc_X8_next_37 v1 v0 t0
def f_X8_next (v0 : V8) (v1 : V7) : Option (Int32 × V8) := bnd2 (f_X8_belowSixteen v0) fun r_1 u_2 => bnd1 (f_X7_valueOf v1 (7 : Int32)) fun r_3 => if r_1 < r_3 then (fc_X8_next_37 v1 u_2 v0.2.2) else (bnd2 (f_X8_belowSixteen u_2) fun r_6 u_7 => bnd1 (f_X7_valueOf v1 (6 : Int32)) fun r_8 => if r_8 ≤ r_6 then (fc_X8_next_36 v1 u_7 (0 : Int32)) else (fc_X8_next_36 v1 u_7 (1 : Int32)))
def f_X4_dropFirst (v0 : V4) : Option (Int32 × V4) := if (0 : Int32) < v0.2.2 then (chkin (v0.2.1 &&& (511 : Int32)) 512 <| bnd (v0.1 (v0.2.1 &&& (511 : Int32)).toNatClampNeg) fun x_1 => bnd ((v0.2.1 + (1 : Int32)) &&& (511 : Int32)) fun x_2 => bnd (v0.2.2 - (1 : Int32)) fun x_3 => some ((x_1, (v0.1, x_2, x_3)))) else (some (((0 : Int32), v0)))
def f_X4_append (v0 : V4) (p1 : Int32) : Option (V4) := if (511 : Int32) < v0.2.2 then (some v0) else (chkin ((v0.2.1 + v0.2.2) &&& (511 : Int32)) 512 <| bnd (upd v0.1 ((v0.2.1 + v0.2.2) &&& (511 : Int32)).toNatClampNeg p1) fun y_1 => bnd (v0.2.2 + (1 : Int32)) fun x_2 => some ((y_1, v0.2.1, x_2)))
def f_X6_append (v0 : V6) (p1 : Int32) : Option (V6) := bnd (v0.2.2 - (1 : Int32)) fun x_1 => if x_1 < (0 : Int32) then (some v0) else (if (15 : Int32) ≤ x_1 then (some v0) else (chkin x_1 15 <| if (15 : Int32) ≤ (v0.2.1 (x_1).toNatClampNeg) then (some v0) else (chkin x_1 15 <| chkin x_1 15 <| chkin x_1 15 <| bnd (upd v0.1 (x_1).toNatClampNeg ((v0.1 (x_1).toNatClampNeg) ||| (p1 <<< ((v0.2.1 (x_1).toNatClampNeg) &&& 31)))) fun y_2 => chkin x_1 15 <| chkin x_1 15 <| bnd (upd v0.2.1 (x_1).toNatClampNeg ((v0.2.1 (x_1).toNatClampNeg) + (1 : Int32))) fun y_3 => some ((y_2, y_3, v0.2.2)))))
def fc_X1_hear_100 (v0 : V1) (x1 : Int32) (t0 : Int32) : Option (V1) := bnd (v0.2.2.1 + (1 : Int32)) fun x_1 => some ((t0, x1, x_1, v0.2.2.2))
def fc_X1_hear_99 (v0 : V1) (x1 : Int32) : Option (V1) := fc_X1_hear_100 v0 x1 (1 : Int32)
def fc_X1_hear_74 (v0 : V1) (x1 : Int32) : Option (V1) := if v0.1 ≤ (0 : Int32) then (fc_X1_hear_99 v0 x1) else (if x1 = v0.2.1 then (fc_X1_hear_100 v0 x1 (v0.1 + (1 : Int32))) else (fc_X1_hear_99 v0 x1))
def fc_X1_hear_56 (v0 : V1) (x1 : Int32) : Option (V1) := if x1 = v0.2.2.2.1 then (bnd (v0.2.2.2.2.1 + (1 : Int32)) fun x_2 => fc_X1_hear_74 ((v0.1, v0.2.1, v0.2.2.1, v0.2.2.2.1, x_2, v0.2.2.2.2.2)) x1) else (fc_X1_hear_74 v0 x1)
def fc_X1_hear_23 (v0 : V1) (x1 : Int32) : Option (V1) := if v0.2.2.1 = (0 : Int32) then (fc_X1_hear_56 ((v0.1, v0.2.1, v0.2.2.1, x1, v0.2.2.2.2)) x1) else (if x1 = v0.2.1 then (fc_X1_hear_56 v0 x1) else (bnd (v0.2.2.2.2.2 + (1 : Int32)) fun x_3 => fc_X1_hear_56 ((v0.1, v0.2.1, v0.2.2.1, v0.2.2.2.1, v0.2.2.2.2.1, x_3)) x1))
def f_X1_hear (v0 : V1) (p1 : Int32) (p2 : Int32) : Option (V1) := if v0.2.2.1 < p2 then (fc_X1_hear_23 v0 p1) else (fc_X1_hear_23 ((v0.1, v0.2.1, (0 : Int32), v0.2.2.2.1, (0 : Int32), (0 : Int32))) p1)
def fc_X2_failures_32 (v0 : V2) (v1 : V1) (x2 : Int32) : Option (Int32) := if v1.2.2.2.2.2 < v0.2.2.2.2 then (some x2) else (bnd (x2 ||| (4 : Int32)) fun x_1 => some x_1)
def fc_X2_failures_16 (v0 : V2) (v1 : V1) (t0 : Int32) : Option (Int32) := if v1.2.2.2.2.1 < v0.2.2.2.1 then (fc_X2_failures_32 v0 v1 t0) else (bnd (t0 ||| (2 : Int32)) fun x_2 => fc_X2_failures_32 v0 v1 x_2)
def f_X2_failures (v0 : V2) (v1 : V1) : Option (Int32) := if v1.1 < v0.2.2.1 then (fc_X2_failures_16 v0 v1 (0 : Int32)) else (fc_X2_failures_16 v0 v1 (1 : Int32))
def f_X10_raiseAlarm (v0 : V10) (p1 : Int32) : Option (V10) := bnd (v0.2.2.2.2.2.2.2.2.2.2.1 + (1 : Int32)) fun x_1 => bnd1 (f_X3_lose v0.2.2.2.2.1) fun u_2 => some ((v0.1, v0.2.1, v0.2.2.1, v0.2.2.2.1, u_2, v0.2.2.2.2.2.1, v0.2.2.2.2.2.2.1, v0.2.2.2.2.2.2.2.1, (3 : Int32), p1, x_1, v0.2.2.2.2.2.2.2.2.2.2.2))
def f_X7_earned (v0 : V7) : Option (Int32) := bnd1 (f_X7_valueOf v0 (0 : Int32)) fun r_1 => some ((9 : Int32) * ((16 : Int32) - r_1))
def f_X7_yielded (v0 : V7) : Option (Int32) := bnd1 (f_X7_valueOf v0 (5 : Int32)) fun r_1 => bnd1 (f_X7_valueOf v0 (4 : Int32)) fun r_2 => bnd1 (f_X7_earned v0) fun r_3 => chknz (100 : Int32) <| bnd (jmin r_1 ((r_2 * r_3) / (100 : Int32))) fun x_4 => some x_4
def fl_X3_fillFrom_4 (k4 : V3 → Int32 → Option (V3)) (v0 : V3) (x2 : Int32) : Option (V3) := if x2 < (0 : Int32) then (some v0) else (if (256 : Int32) ≤ v0.1.2.2 then (bnd (v0.2.2.2.2.1 + (1 : Int32)) fun x_2 => bnd (x2 + (-1 : Int32)) fun x_3 => k4 ((v0.1, v0.2.1, v0.2.2.1, v0.2.2.2.1, x_2, v0.2.2.2.2.2)) x_3) else (bnd1 (f_X4_append v0.1 ((jushr v0.2.1 x2) &&& (1 : Int32))) fun u_4 => bnd (v0.2.2.2.1 + (1 : Int32)) fun x_5 => bnd (x2 + (-1 : Int32)) fun x_6 => k4 ((u_4, v0.2.1, v0.2.2.1, x_5, v0.2.2.2.2)) x_6))
def fb_X3_fillFrom_4 : Nat → V3 → Int32 → Option (V3)
  | 0, _, _ => none
  | n + 1, v0, x2 => fl_X3_fillFrom_4 (fb_X3_fillFrom_4 n) v0 x2
def f_X3_fillFrom (v0 : V3) (p1 : Int32) : Option (V3) := bnd (p1 - (1 : Int32)) fun x_1 => fb_X3_fillFrom_4 FU v0 x_1
def fc_X3_feed_40 (v2 : V7) (v0 : V3) : Option (V3) := bnd (v0.2.2.1 + (1 : Int32)) fun x_3 => bnd1 (f_X7_valueOf v2 (4 : Int32)) fun r_4 => if x_3 < r_4 then (some ((v0.1, v0.2.1, x_3, v0.2.2.2))) else (bnd1 (f_X7_yielded v2) fun r_5 => bnd1 (f_X3_fillFrom ((v0.1, v0.2.1, x_3, v0.2.2.2)) r_5) fun u_6 => some ((u_6.1, (0 : Int32), (0 : Int32), u_6.2.2.2)))
def f_X3_feed (v0 : V3) (v2 : V7) (p1 : Int32) : Option (V3) := bnd ((jushr v0.2.1 (15 : Int32)) &&& (1 : Int32)) fun x_1 => bnd ((v0.2.1 <<< ((1 : Int32) &&& 31)) &&& (65535 : Int32)) fun x_2 => if x_1 = p1 then (fc_X3_feed_40 v2 ((v0.1, x_2, v0.2.2))) else (bnd (x_2 ^^^ (4129 : Int32)) fun x_7 => fc_X3_feed_40 v2 ((v0.1, x_7, v0.2.2)))
def fc_X10_hear_58 (v0 : V10) (x1 : Int32) : Option (Int32 × V10) := bnd1 (f_X4_append v0.2.2.2.2.2.1 x1) fun u_3 => bnd1 (f_X6_append v0.2.2.2.2.2.2.1 x1) fun u_4 => bnd1 (f_X7_valueOf v0.1 (2 : Int32)) fun r_5 => bnd1 (f_X1_hear v0.2.2.2.1 x1 r_5) fun u_6 => bnd1 (f_X2_failures v0.2.1 u_6) fun r_7 => if r_7 = (0 : Int32) then (if v0.2.2.2.2.2.2.2.2.1 = (2 : Int32) then (bnd1 (f_X3_feed v0.2.2.2.2.1 v0.1 x1) fun u_9 => some (((1 : Int32), (v0.1, v0.2.1, v0.2.2.1, u_6, u_9, u_3, u_4, v0.2.2.2.2.2.2.2)))) else (bnd1 (f_X7_valueOf v0.1 (3 : Int32)) fun r_8 => if v0.2.2.2.2.2.2.2.2.2.2.2.2.2 < r_8 then (some (((1 : Int32), (v0.1, v0.2.1, v0.2.2.1, u_6, v0.2.2.2.2.1, u_3, u_4, v0.2.2.2.2.2.2.2)))) else (some (((1 : Int32), (v0.1, v0.2.1, v0.2.2.1, u_6, v0.2.2.2.2.1, u_3, u_4, v0.2.2.2.2.2.2.2.1, (2 : Int32), v0.2.2.2.2.2.2.2.2.2)))))) else (bnd1 (f_X10_raiseAlarm ((v0.1, v0.2.1, v0.2.2.1, u_6, v0.2.2.2.2.1, u_3, u_4, v0.2.2.2.2.2.2.2)) r_7) fun u_10 => some (((1 : Int32), u_10)))
def f_X10_hear (v0 : V10) (p1 : Int32) : Option (Int32 × V10) := if v0.2.2.2.2.2.2.2.2.1 = (0 : Int32) then (some (((0 : Int32), v0))) else (if v0.2.2.2.2.2.2.2.2.1 = (3 : Int32) then (some (((0 : Int32), v0))) else (bnd (v0.2.2.2.2.2.2.2.2.2.2.2.2.1 + (1 : Int32)) fun x_1 => bnd (v0.2.2.2.2.2.2.2.2.2.2.2.2.2 + (1 : Int32)) fun x_2 => if v0.2.2.2.2.2.1.2.2 < (400 : Int32) then (fc_X10_hear_58 ((v0.1, v0.2.1, v0.2.2.1, v0.2.2.2.1, v0.2.2.2.2.1, v0.2.2.2.2.2.1, v0.2.2.2.2.2.2.1, v0.2.2.2.2.2.2.2.1, v0.2.2.2.2.2.2.2.2.1, v0.2.2.2.2.2.2.2.2.2.1, v0.2.2.2.2.2.2.2.2.2.2.1, v0.2.2.2.2.2.2.2.2.2.2.2.1, x_1, x_2)) p1) else (bnd2 (f_X4_dropFirst v0.2.2.2.2.2.1) fun r_11 u_12 => fc_X10_hear_58 ((v0.1, v0.2.1, v0.2.2.1, v0.2.2.2.1, v0.2.2.2.2.1, u_12, v0.2.2.2.2.2.2.1, v0.2.2.2.2.2.2.2.1, v0.2.2.2.2.2.2.2.2.1, v0.2.2.2.2.2.2.2.2.2.1, v0.2.2.2.2.2.2.2.2.2.2.1, v0.2.2.2.2.2.2.2.2.2.2.2.1, x_1, x_2)) p1)))
def fl_X10_drawMany_4 (k4 : V10 → Int32 → Int32 → Int32 → Option (Int32 × V10)) (v0 : V10) (x1 : Int32) (x2 : Int32) (x3 : Int32) : Option (Int32 × V10) := if x1 ≤ x3 then (some ((x2, v0))) else (bnd2 (f_X8_next v0.2.2.1 v0.1) fun r_1 u_2 => bnd2 (f_X10_hear ((v0.1, v0.2.1, u_2, v0.2.2.2)) r_1) fun r_3 u_4 => if r_3 = (0 : Int32) then (bnd (x3 + (1 : Int32)) fun x_5 => k4 u_4 x1 x2 x_5) else (bnd (x2 + (1 : Int32)) fun x_6 => bnd (x3 + (1 : Int32)) fun x_7 => k4 u_4 x1 x_6 x_7))
def fb_X10_drawMany_4 : Nat → V10 → Int32 → Int32 → Int32 → Option (Int32 × V10)
  | 0, _, _, _, _ => none
  | n + 1, v0, x1, x2, x3 => fl_X10_drawMany_4 (fb_X10_drawMany_4 n) v0 x1 x2 x3
def f_X10_drawMany (v0 : V10) (p1 : Int32) : Option (Int32 × V10) := fb_X10_drawMany_4 FU v0 p1 (0 : Int32) (0 : Int32)
def f_X11_draw (v0 : V11) (p1 : Int32) : Option (Int32 × V11) := if p1 < (1 : Int32) then (some (((-1 : Int32), v0))) else (if p1 ≤ (400 : Int32) then (bnd2 (f_X10_drawMany v0.1 p1) fun r_1 u_2 => some ((r_1, (u_2, v0.2)))) else (some (((-1 : Int32), v0))))
def fl_X11_hand_20 (k20 : V11 → Int32 → Int32 → Int32 → Option (Int32 × V11)) (v0 : V11) (x1 : Int32) (x3 : Int32) (x4 : Int32) : Option (Int32 × V11) := if x4 < (0 : Int32) then (some ((x3, v0))) else (bnd2 (f_X10_hear v0.1 ((jushr x1 x4) &&& (1 : Int32))) fun r_2 u_3 => if r_2 = (0 : Int32) then (bnd (x4 + (-1 : Int32)) fun x_4 => k20 ((u_3, v0.2)) x1 x3 x_4) else (bnd (x3 + (1 : Int32)) fun x_5 => bnd (x4 + (-1 : Int32)) fun x_6 => k20 ((u_3, v0.2)) x1 x_5 x_6))
def fb_X11_hand_20 : Nat → V11 → Int32 → Int32 → Int32 → Option (Int32 × V11)
  | 0, _, _, _, _ => none
  | n + 1, v0, x1, x3, x4 => fl_X11_hand_20 (fb_X11_hand_20 n) v0 x1 x3 x4
def f_X11_hand (v0 : V11) (p1 : Int32) (p2 : Int32) : Option (Int32 × V11) := if p2 < (1 : Int32) then (some (((-1 : Int32), v0))) else (if p2 ≤ (32 : Int32) then (bnd (p2 - (1 : Int32)) fun x_1 => fb_X11_hand_20 FU v0 p1 (0 : Int32) x_1) else (some (((-1 : Int32), v0))))
def fl_X3_takeBits_17 (k17 : V3 → Int32 → Int32 → Int32 → Option (Int32 × V3)) (v0 : V3) (x1 : Int32) (x2 : Int32) (x3 : Int32) : Option (Int32 × V3) := if x1 ≤ x3 then (bnd (v0.2.2.2.2.2.1 + x1) fun x_1 => some ((x2, (v0.1, v0.2.1, v0.2.2.1, v0.2.2.2.1, v0.2.2.2.2.1, x_1, v0.2.2.2.2.2.2)))) else (bnd2 (f_X4_dropFirst v0.1) fun r_2 u_3 => bnd ((x2 <<< ((1 : Int32) &&& 31)) ||| r_2) fun x_4 => bnd (x3 + (1 : Int32)) fun x_5 => k17 ((u_3, v0.2)) x1 x_4 x_5)
def fb_X3_takeBits_17 : Nat → V3 → Int32 → Int32 → Int32 → Option (Int32 × V3)
  | 0, _, _, _, _ => none
  | n + 1, v0, x1, x2, x3 => fl_X3_takeBits_17 (fb_X3_takeBits_17 n) v0 x1 x2 x3
def f_X3_takeBits (v0 : V3) (p1 : Int32) : Option (Int32 × V3) := if p1 ≤ v0.1.2.2 then (fb_X3_takeBits_17 FU v0 p1 (0 : Int32) (0 : Int32)) else (some (((-1 : Int32), v0)))
def f_X11_take (v0 : V11) (p1 : Int32) : Option (Int32 × V11) := if p1 < (1 : Int32) then (some (((-1 : Int32), v0))) else (if p1 ≤ (30 : Int32) then (bnd2 (f_X3_takeBits v0.1.2.2.2.2.1 p1) fun r_1 u_2 => some ((r_1, ((v0.1.1, v0.1.2.1, v0.1.2.2.1, v0.1.2.2.2.1, u_2, v0.1.2.2.2.2.2), v0.2)))) else (some (((-1 : Int32), v0))))
def f_X10_countOfParts (v0 : V10) (p1 : Int32) : Option (Int32) := if p1 < (16 : Int32) ∨ (28 : Int32) < p1 then (some (-1 : Int32)) else if p1 = (16 : Int32) then (some v0.2.2.2.1.1) else if p1 = (17 : Int32) then (some v0.2.2.2.1.2.2.1) else if p1 = (18 : Int32) then (some v0.2.2.2.1.2.2.2.2.1) else if p1 = (19 : Int32) then (some v0.2.2.2.1.2.2.2.2.2) else if p1 = (20 : Int32) then (some v0.2.2.2.2.1.2.2.1) else if p1 = (21 : Int32) then (some v0.2.2.2.2.1.1.2.2) else if p1 = (22 : Int32) then (some v0.2.2.2.2.1.2.2.2.1) else if p1 = (23 : Int32) then (some v0.2.2.2.2.1.2.2.2.2.1) else if p1 = (24 : Int32) then (some v0.2.2.2.2.1.2.2.2.2.2.1) else if p1 = (25 : Int32) then (some v0.2.2.2.2.1.2.2.2.2.2.2) else if p1 = (26 : Int32) then (some v0.2.2.2.2.2.1.2.2) else if p1 = (27 : Int32) then (some v0.2.2.2.2.2.2.1.2.2) else if p1 = (28 : Int32) then (some v0.2.2.2.2.2.2.2.1.2.1) else none
def fc_X10_countOf_19 (v0 : V10) (x1 : Int32) : Option (Int32) := if x1 < (16 : Int32) then (if x1 < (8 : Int32) ∨ (15 : Int32) < x1 then (some (-1 : Int32)) else if x1 = (8 : Int32) then (some v0.1.2.2.2.2) else if x1 = (9 : Int32) then (some v0.2.2.2.2.2.2.2.2.1) else if x1 = (10 : Int32) then (some v0.2.2.2.2.2.2.2.2.2.1) else if x1 = (11 : Int32) then (some v0.2.2.2.2.2.2.2.2.2.2.1) else if x1 = (12 : Int32) then (some v0.2.2.2.2.2.2.2.2.2.2.2.1) else if x1 = (13 : Int32) then (some v0.2.2.1.2.1) else if x1 = (14 : Int32) then (some v0.2.2.2.2.2.2.2.2.2.2.2.2.1) else if x1 = (15 : Int32) then (some v0.2.2.2.2.2.2.2.2.2.2.2.2.2) else none) else (bnd1 (f_X10_countOfParts v0 x1) fun r_1 => some r_1)
def f_X10_countOf (v0 : V10) (p1 : Int32) : Option (Int32) := if p1 < (0 : Int32) then (fc_X10_countOf_19 v0 p1) else (if (7 : Int32) < p1 then (fc_X10_countOf_19 v0 p1) else (bnd1 (f_X7_valueOf v0.1 p1) fun r_2 => some r_2))
def f_X11_count (v0 : V11) (p1 : Int32) : Option (Int32) := bnd1 (f_X10_countOf v0.1 p1) fun r_1 => some r_1
def f_X11_rowsOf (v0 : V11) (p1 : Int32) : Option (Int32 × V11) := bnd1 (f_X7_valueOf v0.1.1 (0 : Int32)) fun r_1 => bnd1 (f_X2_fill v0.2.2.2.2.2.1 p1 r_1) fun u_2 => bnd1 (f_X7_valueOf v0.1.1 (1 : Int32)) fun r_3 => bnd1 (f_X2_leastBy u_2 r_3) fun r_4 => some ((r_4, (v0.1, v0.2.1, v0.2.2.1, v0.2.2.2.1, v0.2.2.2.2.1, u_2, v0.2.2.2.2.2.2)))
def fc_X11_limit_21 (v0 : V11) (x1 : Int32) : Option ((Option Int32) × V11) := if x1 < (0 : Int32) ∨ (4 : Int32) < x1 then (some ((none, v0))) else if x1 = (0 : Int32) then (some ((some v0.1.2.1.2.2.1, v0))) else if x1 = (1 : Int32) then (some ((some v0.1.2.1.2.2.2.1, v0))) else if x1 = (2 : Int32) then (some ((some v0.1.2.1.2.2.2.2, v0))) else if x1 = (3 : Int32) then (bnd1 (f_X7_yielded v0.1.1) fun r_1 => some ((some r_1, v0))) else if x1 = (4 : Int32) then (bnd1 (f_X7_earned v0.1.1) fun r_2 => some ((some r_2, v0))) else none
def f_X11_limit (v0 : V11) (p1 : Int32) : Option ((Option Int32) × V11) := if p1 ≤ (10 : Int32) then (fc_X11_limit_21 v0 p1) else (if (25 : Int32) < p1 then (fc_X11_limit_21 v0 p1) else (bnd2 (f_X11_rowsOf v0 (p1 - (10 : Int32))) fun r_3 u_4 => some ((some r_3, (u_4.1, v0.2.1, v0.2.2.1, v0.2.2.2.1, v0.2.2.2.2.1, u_4.2.2.2.2.2.1, v0.2.2.2.2.2.2.1, v0.2.2.2.2.2.2.2)))))
def fc_X2_leastTerms_101 (v0 : V2) (x2 : Int32) (x3 : Int64) (x5 : Int64) : Option (Int64) := if x2 = (0 : Int32) then (some x3) else (some x5)
def fl_X2_leastTerms_61 (v0 : V2) (k61 : Int32 → Int64 → Int64 → Int32 → Option (Int64)) (x2 : Int32) (x3 : Int64) (x5 : Int64) (x7 : Int32) : Option (Int64) := if (60 : Int32) ≤ x7 then (fc_X2_leastTerms_101 v0 x2 x3 x5) else (if (x3 &&& (1 : Int64)) = (0 : Int64) then (if (x5 &&& (1 : Int64)) = (0 : Int64) then (bnd (jlshr x3 (1 : Int32)) fun x_2 => bnd (jlshr x5 (1 : Int32)) fun x_3 => bnd (x7 + (1 : Int32)) fun x_4 => k61 x2 x_2 x_3 x_4) else (fc_X2_leastTerms_101 v0 x2 x3 x5)) else (fc_X2_leastTerms_101 v0 x2 x3 x5))
def fb_X2_leastTerms_61 (v0 : V2) : Nat → Int32 → Int64 → Int64 → Int32 → Option (Int64)
  | 0, _, _, _, _ => none
  | n + 1, x2, x3, x5, x7 => fl_X2_leastTerms_61 v0 (fb_X2_leastTerms_61 v0 n) x2 x3 x5 x7
def fc_X2_leastTerms_31 (v0 : V2) (x2 : Int32) (t0 : Int64) : Option (Int64) := if t0 = (0 : Int64) then (if x2 = (0 : Int32) then (some (0 : Int64)) else (some (1 : Int64))) else (bnd (jlshl (1 : Int64) ((4 : Int32) * v0.2.1)) fun x_1 => fb_X2_leastTerms_61 v0 FU x2 t0 x_1 (0 : Int32))
def fc_X2_leastTerms_21 (v0 : V2) (x2 : Int32) : Option (Int64) := fc_X2_leastTerms_31 v0 x2 (0 : Int64)
def f_X2_leastTerms (v0 : V2) (p1 : Int32) (p2 : Int32) : Option (Int64) := if p1 < (0 : Int32) then (fc_X2_leastTerms_21 v0 p2) else (if v0.2.1 < p1 then (fc_X2_leastTerms_21 v0 p2) else (if p1 < (17 : Int32) then (chkin p1 17 <| fc_X2_leastTerms_31 v0 p2 (v0.1 (p1).toNatClampNeg)) else (fc_X2_leastTerms_21 v0 p2)))
def f_X11_odds (v0 : V11) (p1 : Int32) (p2 : Int32) : Option (Int64 × V11) := bnd1 (f_X7_valueOf v0.1.1 (2 : Int32)) fun r_1 => bnd (r_1 - (1 : Int32)) fun x_2 => if p1 = (0 : Int32) then (bnd1 (f_X7_valueOf v0.1.1 (0 : Int32)) fun r_5 => bnd1 (f_X2_fill v0.2.2.2.2.2.1 x_2 r_5) fun u_6 => bnd1 (f_X2_leastTerms u_6 (v0.1.2.1.2.2.2.1 - (1 : Int32)) p2) fun r_7 => some ((r_7, (v0.1, v0.2.1, v0.2.2.1, v0.2.2.2.1, v0.2.2.2.2.1, u_6, v0.2.2.2.2.2.2)))) else (if p1 = (1 : Int32) then (bnd1 (f_X2_fill v0.2.2.2.2.2.1 x_2 (8 : Int32)) fun u_3 => bnd1 (f_X2_leastTerms u_3 v0.1.2.1.2.2.2.2 p2) fun r_4 => some ((r_4, (v0.1, v0.2.1, v0.2.2.1, v0.2.2.2.1, v0.2.2.2.2.1, u_3, v0.2.2.2.2.2.2)))) else (some (((-1 : Int64), v0))))
def f_X4_bitAt (v0 : V4) (p1 : Int32) : Option (Int32) := if p1 < (0 : Int32) then (some (-1 : Int32)) else (if p1 < v0.2.2 then (chkin ((v0.2.1 + p1) &&& (511 : Int32)) 512 <| some (v0.1 ((v0.2.1 + p1) &&& (511 : Int32)).toNatClampNeg)) else (some (-1 : Int32)))
def f_X11_history (v0 : V11) (p1 : Int32) : Option (Int32) := bnd1 (f_X4_bitAt v0.1.2.2.2.2.2.1 p1) fun r_1 => some r_1
def f_X11_pool (v0 : V11) (p1 : Int32) : Option (Int32) := bnd1 (f_X4_bitAt v0.1.2.2.2.2.1.1 p1) fun r_1 => some r_1
def f_X6_has (v0 : V6) (p1 : Int32) : Option (Int32) := if p1 < (0 : Int32) then (some (0 : Int32)) else (if v0.2.2 ≤ p1 then (some (0 : Int32)) else (if (15 : Int32) ≤ p1 then (some (0 : Int32)) else (some (1 : Int32))))
def f_X6_lengthOf (v0 : V6) (p1 : Int32) : Option (Int32) := bnd1 (f_X6_has v0 p1) fun r_1 => if r_1 = (0 : Int32) then (some (-1 : Int32)) else (chkin p1 15 <| some (v0.2.1 (p1).toNatClampNeg))
def f_X6_sampleOf (v0 : V6) (p1 : Int32) (p2 : Int32) : Option (Int32) := bnd1 (f_X6_has v0 p1) fun r_1 => if r_1 = (0 : Int32) then (some (-1 : Int32)) else (if p2 < (0 : Int32) then (some (-1 : Int32)) else (chkin p1 15 <| if (v0.2.1 (p1).toNatClampNeg) ≤ p2 then (some (-1 : Int32)) else (chkin p1 15 <| some ((jushr (v0.1 (p1).toNatClampNeg) p2) &&& (1 : Int32)))))
def f_X11_row (v0 : V11) (p1 : Int32) (p2 : Int32) (p3 : Int32) : Option (Int32) := if p3 = (0 : Int32) then (bnd1 (f_X6_sampleOf v0.1.2.2.2.2.2.2.1 p1 p2) fun r_1 => some r_1) else (bnd1 (f_X6_lengthOf v0.1.2.2.2.2.2.2.1 p1) fun r_2 => some r_2)
def fl_X0_load_28 (v1 : V4) (k28 : V0 → Int32 → Int32 → Option (V0)) (v0 : V0) (x3 : Int32) (x4 : Int32) : Option (V0) := if v0.2.2.1 ≤ x4 then (some v0) else (if (400 : Int32) ≤ x4 then (some v0) else (bnd1 (f_X4_bitAt v1 (x3 + x4)) fun r_4 => chkin x4 400 <| bnd (upd v0.1 (x4).toNatClampNeg r_4) fun y_5 => bnd (x4 + (1 : Int32)) fun x_6 => k28 ((y_5, v0.2)) x3 x_6))
def fb_X0_load_28 (v1 : V4) : Nat → V0 → Int32 → Int32 → Option (V0)
  | 0, _, _, _ => none
  | n + 1, v0, x3, x4 => fl_X0_load_28 v1 (fb_X0_load_28 v1 n) v0 x3 x4
def f_X0_load (v0 : V0) (v1 : V4) (p2 : Int32) : Option (V0) := bnd (jmin p2 (400 : Int32)) fun x_1 => bnd (jmax (0 : Int32) x_1) fun x_2 => bnd (v1.2.2 - x_2) fun x_3 => fb_X0_load_28 v1 FU ((v0.1, v0.2.1, x_2, v0.2.2.2)) x_3 (0 : Int32)
def f_X11_loadLatest (v0 : V11) (p1 : Int32) (p2 : Int32) : Option (Int32 × V11) := if p1 < p2 then (some (((0 : Int32), v0))) else (if p1 ≤ v0.1.2.2.2.2.2.1.2.2 then (bnd1 (f_X0_load v0.2.2.2.2.1 v0.1.2.2.2.2.2.1 p1) fun u_1 => some (((1 : Int32), (v0.1, v0.2.1, v0.2.2.1, v0.2.2.2.1, u_1, v0.2.2.2.2.2)))) else (some (((0 : Int32), v0))))
def fc_X0_measureCommon_34 (v0 : V0) (x1 : Int32) : Option (V0) := bnd (jmax x1 (v0.2.2.1 - x1)) fun x_1 => some ((v0.1, v0.2.1, v0.2.2.1, x_1, v0.2.2.1))
def fl_X0_measureCommon_4 (k4 : V0 → Int32 → Int32 → Option (V0)) (v0 : V0) (x1 : Int32) (x2 : Int32) : Option (V0) := if v0.2.2.1 ≤ x2 then (fc_X0_measureCommon_34 v0 x1) else (if (400 : Int32) ≤ x2 then (fc_X0_measureCommon_34 v0 x1) else (chkin x2 400 <| bnd (x1 + (v0.1 (x2).toNatClampNeg)) fun x_2 => bnd (x2 + (1 : Int32)) fun x_3 => k4 v0 x_2 x_3))
def fb_X0_measureCommon_4 : Nat → V0 → Int32 → Int32 → Option (V0)
  | 0, _, _, _ => none
  | n + 1, v0, x1, x2 => fl_X0_measureCommon_4 (fb_X0_measureCommon_4 n) v0 x1 x2
def f_X0_measureCommon (v0 : V0) : Option (V0) := fb_X0_measureCommon_4 FU v0 (0 : Int32) (0 : Int32)
def fc_X0_measureCollision_53 (k12 : V0 → Int32 → Option (V0)) (v0 : V0) (x1 : Int32) (t0 : Int32) : Option (V0) := bnd (x1 + t0) fun x_1 => if v0.2.2.1 < x_1 then (k12 v0 x_1) else (bnd (v0.2.2.2.1 + t0) fun x_2 => bnd (v0.2.2.2.2 + (1 : Int32)) fun x_3 => k12 ((v0.1, v0.2.1, v0.2.2.1, x_2, x_3)) x_1)
def fl_X0_measureCollision_12 (k12 : V0 → Int32 → Option (V0)) (v0 : V0) (x1 : Int32) : Option (V0) := if v0.2.2.1 ≤ (x1 + (1 : Int32)) then (some v0) else (if (400 : Int32) ≤ (x1 + (1 : Int32)) then (some v0) else (chkin x1 400 <| chkin (x1 + (1 : Int32)) 400 <| if (v0.1 (x1).toNatClampNeg) = (v0.1 (x1 + (1 : Int32)).toNatClampNeg) then (fc_X0_measureCollision_53 k12 v0 x1 (2 : Int32)) else (fc_X0_measureCollision_53 k12 v0 x1 (3 : Int32))))
def fb_X0_measureCollision_12 : Nat → V0 → Int32 → Option (V0)
  | 0, _, _ => none
  | n + 1, v0, x1 => fl_X0_measureCollision_12 (fb_X0_measureCollision_12 n) v0 x1
def f_X0_measureCollision (v0 : V0) : Option (V0) := fb_X0_measureCollision_12 FU ((v0.1, v0.2.1, v0.2.2.1, (0 : Int32), (0 : Int32))) (0 : Int32)
def fc_X0_measureFollow_77 (v0 : V0) (x1 : Int32) (x2 : Int32) (x3 : Int32) : Option (V0) := bnd ((v0.2.2.1 - (1 : Int32)) - x1) fun x_1 => bnd (jmax x2 (x1 - x2)) fun x_2 => bnd (jmax x3 (x_1 - x3)) fun x_3 => if x_1 = (0 : Int32) then (some ((v0.1, v0.2.1, v0.2.2.1, x_2, x1))) else (if (x_2 * x_1) ≤ (x_3 * x1) then (some ((v0.1, v0.2.1, v0.2.2.1, x_3, x_1))) else (some ((v0.1, v0.2.1, v0.2.2.1, x_2, x1))))
def fl_X0_measureFollow_9 (k9 : V0 → Int32 → Int32 → Int32 → Int32 → Option (V0)) (v0 : V0) (x1 : Int32) (x2 : Int32) (x3 : Int32) (x4 : Int32) : Option (V0) := if v0.2.2.1 ≤ (x4 + (1 : Int32)) then (fc_X0_measureFollow_77 v0 x1 x2 x3) else (if (400 : Int32) ≤ (x4 + (1 : Int32)) then (fc_X0_measureFollow_77 v0 x1 x2 x3) else (chkin x4 400 <| if (v0.1 (x4).toNatClampNeg) = (1 : Int32) then (bnd (x1 + (1 : Int32)) fun x_6 => chkin (x4 + (1 : Int32)) 400 <| bnd (x2 + (v0.1 (x4 + (1 : Int32)).toNatClampNeg)) fun x_7 => bnd (x4 + (1 : Int32)) fun x_8 => k9 v0 x_6 x_7 x3 x_8) else (chkin (x4 + (1 : Int32)) 400 <| bnd (x3 + (v0.1 (x4 + (1 : Int32)).toNatClampNeg)) fun x_4 => bnd (x4 + (1 : Int32)) fun x_5 => k9 v0 x1 x2 x_4 x_5)))
def fb_X0_measureFollow_9 : Nat → V0 → Int32 → Int32 → Int32 → Int32 → Option (V0)
  | 0, _, _, _, _, _ => none
  | n + 1, v0, x1, x2, x3, x4 => fl_X0_measureFollow_9 (fb_X0_measureFollow_9 n) v0 x1 x2 x3 x4
def f_X0_measureFollow (v0 : V0) : Option (V0) := fb_X0_measureFollow_9 FU v0 (0 : Int32) (0 : Int32) (0 : Int32) (0 : Int32)
def f_X0_measure (v0 : V0) (p1 : Int32) : Option (V0) := if p1 = (0 : Int32) then (bnd1 (f_X0_measureCommon v0) fun u_3 => some u_3) else (if p1 = (1 : Int32) then (bnd1 (f_X0_measureCollision v0) fun u_2 => some u_2) else (bnd1 (f_X0_measureFollow v0) fun u_1 => some u_1))
def f_X11_bound (v0 : V11) (p1 : Int32) (p2 : Int32) (p3 : Int32) : Option (Int32 × V11) := if p1 < (0 : Int32) then (some (((-1 : Int32), v0))) else (if (2 : Int32) < p1 then (some (((-1 : Int32), v0))) else (bnd2 (f_X11_loadLatest v0 p2 (2 : Int32)) fun r_1 u_2 => if r_1 = (0 : Int32) then (some (((-1 : Int32), (u_2.1, v0.2.1, v0.2.2.1, v0.2.2.2.1, u_2.2.2.2.2.1, v0.2.2.2.2.2.1, v0.2.2.2.2.2.2.1, v0.2.2.2.2.2.2.2)))) else (bnd1 (f_X0_measure u_2.2.2.2.2.1 p1) fun u_3 => if p3 = (0 : Int32) then (some ((u_3.2.2.2.1, (u_2.1, v0.2.1, v0.2.2.1, v0.2.2.2.1, u_3, v0.2.2.2.2.2.1, v0.2.2.2.2.2.2.1, v0.2.2.2.2.2.2.2)))) else (some ((u_3.2.2.2.2, (u_2.1, v0.2.1, v0.2.2.1, v0.2.2.2.1, u_3, v0.2.2.2.2.2.1, v0.2.2.2.2.2.2.1, v0.2.2.2.2.2.2.2)))))))
def f_X0_holdsBy (v0 : V0) (p1 : Int32) (p2 : Int32) : Option (Int32) := if p1 = (1 : Int32) then (if ((256 : Int32) * v0.2.2.2.1) < (v0.2.2.2.2 * ((512 : Int32) + (((2 : Int32) * p2) * ((16 : Int32) - p2)))) then (some (0 : Int32)) else (some (1 : Int32))) else (if (v0.2.2.2.2 * p2) < ((16 : Int32) * v0.2.2.2.1) then (some (0 : Int32)) else (some (1 : Int32)))
def fl_X11_holds_15 (k15 : V11 → Int32 → Int32 → Option (Int32 × V11)) (v0 : V11) (x2 : Int32) (x3 : Int32) : Option (Int32 × V11) := if (2 : Int32) < x3 then (some ((x2, v0))) else (bnd1 (f_X0_measure v0.2.2.2.2.1 x3) fun u_3 => bnd1 (f_X7_valueOf v0.1.1 (0 : Int32)) fun r_4 => bnd1 (f_X0_holdsBy u_3 x3 r_4) fun r_5 => if r_5 = (0 : Int32) then (bnd (x3 + (1 : Int32)) fun x_6 => k15 ((v0.1, v0.2.1, v0.2.2.1, v0.2.2.2.1, u_3, v0.2.2.2.2.2)) x2 x_6) else (bnd (x2 ||| ((1 : Int32) <<< (x3 &&& 31))) fun x_7 => bnd (x3 + (1 : Int32)) fun x_8 => k15 ((v0.1, v0.2.1, v0.2.2.1, v0.2.2.2.1, u_3, v0.2.2.2.2.2)) x_7 x_8))
def fb_X11_holds_15 : Nat → V11 → Int32 → Int32 → Option (Int32 × V11)
  | 0, _, _, _ => none
  | n + 1, v0, x2, x3 => fl_X11_holds_15 (fb_X11_holds_15 n) v0 x2 x3
def f_X11_holds (v0 : V11) (p1 : Int32) : Option (Int32 × V11) := bnd2 (f_X11_loadLatest v0 p1 (2 : Int32)) fun r_1 u_2 => if r_1 = (0 : Int32) then (some (((-1 : Int32), (u_2.1, v0.2.1, v0.2.2.1, v0.2.2.2.1, u_2.2.2.2.2.1, v0.2.2.2.2.2.1, v0.2.2.2.2.2.2.1, v0.2.2.2.2.2.2.2)))) else (fb_X11_holds_15 FU ((u_2.1, v0.2.1, v0.2.2.1, v0.2.2.2.1, u_2.2.2.2.2.1, v0.2.2.2.2.2.1, v0.2.2.2.2.2.2.1, v0.2.2.2.2.2.2.2)) (0 : Int32) (0 : Int32))
def fl_X11_leastChance_11 (k11 : V11 → Int32 → Int32 → Option (Int32 × V11)) (v0 : V11) (x1 : Int32) (x2 : Int32) : Option (Int32 × V11) := if (16 : Int32) ≤ x2 then (some (((16 : Int32), v0))) else (bnd1 (f_X0_holdsBy v0.2.2.2.2.1 x1 x2) fun r_2 => if r_2 = (0 : Int32) then (bnd (x2 + (1 : Int32)) fun x_3 => k11 v0 x1 x_3) else (some ((x2, v0))))
def fb_X11_leastChance_11 : Nat → V11 → Int32 → Int32 → Option (Int32 × V11)
  | 0, _, _, _ => none
  | n + 1, v0, x1, x2 => fl_X11_leastChance_11 (fb_X11_leastChance_11 n) v0 x1 x2
def f_X11_leastChance (v0 : V11) (p1 : Int32) : Option (Int32 × V11) := bnd1 (f_X0_measure v0.2.2.2.2.1 p1) fun u_1 => fb_X11_leastChance_11 FU ((v0.1, v0.2.1, v0.2.2.1, v0.2.2.2.1, u_1, v0.2.2.2.2.2)) p1 (8 : Int32)
def f_X11_claim (v0 : V11) (p1 : Int32) : Option (Int32 × V11) := bnd2 (f_X11_loadLatest v0 p1 (2 : Int32)) fun r_1 u_2 => if r_1 = (0 : Int32) then (some (((-1 : Int32), (u_2.1, v0.2.1, v0.2.2.1, v0.2.2.2.1, u_2.2.2.2.2.1, v0.2.2.2.2.2.1, v0.2.2.2.2.2.2.1, v0.2.2.2.2.2.2.2)))) else (bnd2 (f_X11_leastChance ((u_2.1, v0.2.1, v0.2.2.1, v0.2.2.2.1, u_2.2.2.2.2.1, v0.2.2.2.2.2.1, v0.2.2.2.2.2.2.1, v0.2.2.2.2.2.2.2)) (0 : Int32)) fun r_3 u_4 => bnd2 (f_X11_leastChance ((u_2.1, v0.2.1, v0.2.2.1, v0.2.2.2.1, u_4.2.2.2.2.1, v0.2.2.2.2.2.1, v0.2.2.2.2.2.2.1, v0.2.2.2.2.2.2.2)) (2 : Int32)) fun r_5 u_6 => bnd (jmax r_3 r_5) fun x_7 => some ((x_7, (u_2.1, v0.2.1, v0.2.2.1, v0.2.2.2.1, u_6.2.2.2.2.1, v0.2.2.2.2.2.1, v0.2.2.2.2.2.2.1, v0.2.2.2.2.2.2.2))))
def f_X11_loadTuples (v0 : V11) (p1 : Int32) (p2 : Int32) : Option (Int32 × V11) := if p2 < (1 : Int32) then (some (((0 : Int32), v0))) else (if (8 : Int32) < p2 then (some (((0 : Int32), v0))) else (if p1 < p2 then (some (((0 : Int32), v0))) else (bnd2 (f_X11_loadLatest v0 p1 (1 : Int32)) fun r_1 u_2 => if r_1 = (0 : Int32) then (some (((0 : Int32), (u_2.1, v0.2.1, v0.2.2.1, v0.2.2.2.1, u_2.2.2.2.2.1, v0.2.2.2.2.2.1, v0.2.2.2.2.2.2.1, v0.2.2.2.2.2.2.2)))) else (some (((1 : Int32), (u_2.1, v0.2.1, v0.2.2.1, v0.2.2.2.1, u_2.2.2.2.2.1, v0.2.2.2.2.2.1, v0.2.2.2.2.2.2.1, v0.2.2.2.2.2.2.2)))))))
def fl_J7_fill_53178_5 (n0 : Nat) (k5 : (Nat → Int32) → Int32 → Int32 → Int32 → Option ((Nat → Int32))) (v0 : (Nat → Int32)) (x1 : Int32) (x2 : Int32) (x3 : Int32) : Option ((Nat → Int32)) := if x3 ≤ x2 then (some v0) else (chkin x2 n0 <| bnd (upd v0 (x2).toNatClampNeg x1) fun y_2 => bnd (x2 + (1 : Int32)) fun x_3 => k5 y_2 x1 x_3 x3)
def fb_J7_fill_53178_5 (n0 : Nat) : Nat → (Nat → Int32) → Int32 → Int32 → Int32 → Option ((Nat → Int32))
  | 0, _, _, _, _ => none
  | n + 1, v0, x1, x2, x3 => fl_J7_fill_53178_5 n0 (fb_J7_fill_53178_5 n0 n) v0 x1 x2 x3
def f_J7_fill_53178 (n0 : Nat) (v0 : (Nat → Int32)) (p1 : Int32) : Option ((Nat → Int32)) := bnd (Int32.ofNat n0) fun x_1 => fb_J7_fill_53178_5 n0 FU v0 p1 (0 : Int32) x_1
def fl_X0_mostOften_26 (k26 : V0 → Int32 → Int32 → Int32 → Int32 → Int32 → Option (Int32 × V0)) (v0 : V0) (x1 : Int32) (x2 : Int32) (x3 : Int32) (x4 : Int32) (x5 : Int32) : Option (Int32 × V0) := if v0.2.2.1 ≤ x5 then (some ((x4, v0))) else (if (400 : Int32) ≤ x5 then (some ((x4, v0))) else (chkin x5 400 <| bnd (((x3 <<< ((1 : Int32) &&& 31)) ||| (v0.1 (x5).toNatClampNeg)) &&& x2) fun x_3 => if x5 < (x1 - (1 : Int32)) then (bnd (x5 + (1 : Int32)) fun x_4 => k26 v0 x1 x2 x_3 x4 x_4) else (chkin x_3 256 <| chkin x_3 256 <| bnd (upd v0.2.1 (x_3).toNatClampNeg ((v0.2.1 (x_3).toNatClampNeg) + (1 : Int32))) fun y_5 => chkin x_3 256 <| bnd (jmax x4 (y_5 (x_3).toNatClampNeg)) fun x_6 => bnd (x5 + (1 : Int32)) fun x_7 => k26 ((v0.1, y_5, v0.2.2)) x1 x2 x_3 x_6 x_7)))
def fb_X0_mostOften_26 : Nat → V0 → Int32 → Int32 → Int32 → Int32 → Int32 → Option (Int32 × V0)
  | 0, _, _, _, _, _, _ => none
  | n + 1, v0, x1, x2, x3, x4, x5 => fl_X0_mostOften_26 (fb_X0_mostOften_26 n) v0 x1 x2 x3 x4 x5
def f_X0_mostOften (v0 : V0) (p1 : Int32) : Option (Int32 × V0) := bnd1 (f_J7_fill_53178 256 v0.2.1 (0 : Int32)) fun u_1 => bnd ((((1 : Int32) <<< (p1 &&& 31)) - (1 : Int32)) &&& (255 : Int32)) fun x_2 => fb_X0_mostOften_26 FU ((v0.1, u_1, v0.2.2)) p1 x_2 (0 : Int32) (0 : Int32) (0 : Int32)
def f_X11_tuple (v0 : V11) (p1 : Int32) (p2 : Int32) : Option (Int32 × V11) := bnd2 (f_X11_loadTuples v0 p1 p2) fun r_1 u_2 => if r_1 = (0 : Int32) then (some (((-1 : Int32), (u_2.1, v0.2.1, v0.2.2.1, v0.2.2.2.1, u_2.2.2.2.2.1, v0.2.2.2.2.2.1, v0.2.2.2.2.2.2.1, v0.2.2.2.2.2.2.2)))) else (bnd2 (f_X0_mostOften u_2.2.2.2.2.1 p2) fun r_3 u_4 => some ((r_3, (u_2.1, v0.2.1, v0.2.2.1, v0.2.2.2.1, u_4, v0.2.2.2.2.2.1, v0.2.2.2.2.2.2.1, v0.2.2.2.2.2.2.2))))
def fl_X11_spreads_32 (k32 : V11 → Int32 → Int64 → Int64 → Int32 → Option (Int32 × V11)) (v0 : V11) (x2 : Int32) (x3 : Int64) (x5 : Int64) (x7 : Int32) : Option (Int32 × V11) := if x2 ≤ x7 then (if x5 < x3 then (some (((0 : Int32), v0))) else (some (((1 : Int32), v0)))) else (bnd (x3 * (16 : Int64)) fun x_7 => bnd1 (f_X7_valueOf v0.1.1 (0 : Int32)) fun r_8 => bnd (x5 * (Int32.toInt64 r_8)) fun x_9 => bnd (x7 + (1 : Int32)) fun x_10 => k32 v0 x2 x_7 x_9 x_10)
def fb_X11_spreads_32 : Nat → V11 → Int32 → Int64 → Int64 → Int32 → Option (Int32 × V11)
  | 0, _, _, _, _, _ => none
  | n + 1, v0, x2, x3, x5, x7 => fl_X11_spreads_32 (fb_X11_spreads_32 n) v0 x2 x3 x5 x7
def f_X11_spreads (v0 : V11) (p1 : Int32) (p2 : Int32) : Option (Int32 × V11) := bnd2 (f_X11_loadTuples v0 p1 p2) fun r_1 u_2 => if r_1 = (0 : Int32) then (some (((0 : Int32), (u_2.1, v0.2.1, v0.2.2.1, v0.2.2.2.1, u_2.2.2.2.2.1, v0.2.2.2.2.2.1, v0.2.2.2.2.2.2.1, v0.2.2.2.2.2.2.2)))) else (bnd2 (f_X0_mostOften u_2.2.2.2.2.1 p2) fun r_3 u_4 => bnd (Int32.toInt64 r_3) fun x_5 => bnd (Int32.toInt64 ((p1 - p2) + (1 : Int32))) fun x_6 => fb_X11_spreads_32 FU ((u_2.1, v0.2.1, v0.2.2.1, v0.2.2.2.1, u_4, v0.2.2.2.2.2.1, v0.2.2.2.2.2.2.1, v0.2.2.2.2.2.2.2)) p2 x_5 x_6 (0 : Int32))
def fl_X0_alikeAt_11 (v0 : V0) (k11 : Int32 → Int32 → Int32 → Option (Int32)) (x1 : Int32) (x2 : Int32) (x3 : Int32) : Option (Int32) := if v0.2.2.1 ≤ x3 then (some x2) else (if (400 : Int32) ≤ x3 then (some x2) else (chkin x3 400 <| chkin (x3 - x1) 400 <| if (v0.1 (x3).toNatClampNeg) = (v0.1 (x3 - x1).toNatClampNeg) then (bnd (x2 + (1 : Int32)) fun x_2 => bnd (x3 + (1 : Int32)) fun x_3 => k11 x1 x_2 x_3) else (bnd (x3 + (1 : Int32)) fun x_1 => k11 x1 x2 x_1)))
def fb_X0_alikeAt_11 (v0 : V0) : Nat → Int32 → Int32 → Int32 → Option (Int32)
  | 0, _, _, _ => none
  | n + 1, x1, x2, x3 => fl_X0_alikeAt_11 v0 (fb_X0_alikeAt_11 v0 n) x1 x2 x3
def f_X0_alikeAt (v0 : V0) (p1 : Int32) : Option (Int32) := if (1 : Int32) ≤ p1 then (fb_X0_alikeAt_11 v0 FU p1 (0 : Int32) p1) else (some (0 : Int32))
def f_X11_lag (v0 : V11) (p1 : Int32) (p2 : Int32) : Option (Int32 × V11) := if p2 < (1 : Int32) then (some (((-1 : Int32), v0))) else (if (32 : Int32) < p2 then (some (((-1 : Int32), v0))) else (if p1 ≤ p2 then (some (((-1 : Int32), v0))) else (bnd2 (f_X11_loadLatest v0 p1 (2 : Int32)) fun r_1 u_2 => if r_1 = (0 : Int32) then (some (((-1 : Int32), (u_2.1, v0.2.1, v0.2.2.1, v0.2.2.2.1, u_2.2.2.2.2.1, v0.2.2.2.2.2.1, v0.2.2.2.2.2.2.1, v0.2.2.2.2.2.2.2)))) else (bnd1 (f_X0_alikeAt u_2.2.2.2.2.1 p2) fun r_3 => some ((r_3, (u_2.1, v0.2.1, v0.2.2.1, v0.2.2.2.1, u_2.2.2.2.2.1, v0.2.2.2.2.2.1, v0.2.2.2.2.2.2.1, v0.2.2.2.2.2.2.2)))))))
def fl_X11_echo_25 (k25 : V11 → Int32 → Int32 → Int32 → Int32 → Option (Int32 × V11)) (v0 : V11) (x1 : Int32) (x2 : Int32) (x3 : Int32) (x4 : Int32) : Option (Int32 × V11) := if (32 : Int32) < x4 then (some ((x2, v0))) else (if x1 ≤ x4 then (some ((x2, v0))) else (bnd1 (f_X0_alikeAt v0.2.2.2.2.1 x4) fun r_4 => if (r_4 * (x1 - x2)) ≤ (x3 * (x1 - x4)) then (bnd (x4 + (1 : Int32)) fun x_5 => k25 v0 x1 x2 x3 x_5) else (bnd (x4 + (1 : Int32)) fun x_6 => k25 v0 x1 x4 r_4 x_6)))
def fb_X11_echo_25 : Nat → V11 → Int32 → Int32 → Int32 → Int32 → Option (Int32 × V11)
  | 0, _, _, _, _, _ => none
  | n + 1, v0, x1, x2, x3, x4 => fl_X11_echo_25 (fb_X11_echo_25 n) v0 x1 x2 x3 x4
def f_X11_echo (v0 : V11) (p1 : Int32) : Option (Int32 × V11) := bnd2 (f_X11_loadLatest v0 p1 (2 : Int32)) fun r_1 u_2 => if r_1 = (0 : Int32) then (some (((-1 : Int32), (u_2.1, v0.2.1, v0.2.2.1, v0.2.2.2.1, u_2.2.2.2.2.1, v0.2.2.2.2.2.1, v0.2.2.2.2.2.2.1, v0.2.2.2.2.2.2.2)))) else (bnd1 (f_X0_alikeAt u_2.2.2.2.2.1 (1 : Int32)) fun r_3 => fb_X11_echo_25 FU ((u_2.1, v0.2.1, v0.2.2.1, v0.2.2.2.1, u_2.2.2.2.2.1, v0.2.2.2.2.2.1, v0.2.2.2.2.2.2.1, v0.2.2.2.2.2.2.2)) p1 (1 : Int32) r_3 (2 : Int32))
def f_X6_isFull (v0 : V6) (p1 : Int32) : Option (Int32) := bnd1 (f_X6_lengthOf v0 p1) fun r_1 => if r_1 = (15 : Int32) then (some (1 : Int32)) else (some (0 : Int32))
def fl_X6_full_4 (v0 : V6) (k4 : Int32 → Int32 → Option (Int32)) (x1 : Int32) (x2 : Int32) : Option (Int32) := if (15 : Int32) ≤ x2 then (some x1) else (bnd1 (f_X6_isFull v0 x2) fun r_1 => if r_1 = (0 : Int32) then (bnd (x2 + (1 : Int32)) fun x_2 => k4 x1 x_2) else (bnd (x1 + (1 : Int32)) fun x_3 => bnd (x2 + (1 : Int32)) fun x_4 => k4 x_3 x_4))
def fb_X6_full_4 (v0 : V6) : Nat → Int32 → Int32 → Option (Int32)
  | 0, _, _ => none
  | n + 1, x1, x2 => fl_X6_full_4 v0 (fb_X6_full_4 v0 n) x1 x2
def f_X6_full (v0 : V6) : Option (Int32) := fb_X6_full_4 v0 FU (0 : Int32) (0 : Int32)
def f_J6_bitCount_0f7a4 (p0 : Int32) : Option (Int32) := bnd (p0 - ((jushr p0 (1 : Int32)) &&& (1431655765 : Int32))) fun x_1 => bnd ((x_1 &&& (858993459 : Int32)) + ((jushr x_1 (2 : Int32)) &&& (858993459 : Int32))) fun x_2 => bnd ((x_2 + (jushr x_2 (4 : Int32))) &&& (252645135 : Int32)) fun x_3 => bnd (x_3 + (jushr x_3 (8 : Int32))) fun x_4 => bnd (x_4 + (jushr x_4 (16 : Int32))) fun x_5 => some (x_5 &&& (63 : Int32))
def f_X6_moreOfRow (v0 : V6) (p1 : Int32) : Option (Int32) := bnd1 (f_X6_has v0 p1) fun r_1 => if r_1 = (0 : Int32) then (some (0 : Int32)) else (bnd1 (f_X6_isFull v0 p1) fun r_2 => if r_2 = (0 : Int32) then (some (0 : Int32)) else (chkin p1 15 <| bnd1 (f_J6_bitCount_0f7a4 (v0.1 (p1).toNatClampNeg)) fun r_3 => bnd (jmax r_3 ((15 : Int32) - r_3)) fun x_4 => some x_4))
def fl_X6_greatestRow_4 (v0 : V6) (k4 : Int32 → Int32 → Option (Int32)) (x1 : Int32) (x2 : Int32) : Option (Int32) := if (15 : Int32) ≤ x2 then (some x1) else (bnd1 (f_X6_moreOfRow v0 x2) fun r_1 => bnd (jmax x1 r_1) fun x_2 => bnd (x2 + (1 : Int32)) fun x_3 => k4 x_2 x_3)
def fb_X6_greatestRow_4 (v0 : V6) : Nat → Int32 → Int32 → Option (Int32)
  | 0, _, _ => none
  | n + 1, x1, x2 => fl_X6_greatestRow_4 v0 (fb_X6_greatestRow_4 v0 n) x1 x2
def f_X6_greatestRow (v0 : V6) : Option (Int32) := fb_X6_greatestRow_4 v0 FU (0 : Int32) (0 : Int32)
def fl_X6_moreOfColumn_7 (v0 : V6) (k7 : Int32 → Int32 → Int32 → Int32 → Option (Int32)) (x1 : Int32) (x2 : Int32) (x3 : Int32) (x4 : Int32) : Option (Int32) := if (15 : Int32) ≤ x4 then (if (2 : Int32) ≤ x3 then (bnd (jmax x2 (x3 - x2)) fun x_1 => some x_1) else (some (0 : Int32))) else (bnd1 (f_X6_isFull v0 x4) fun r_2 => if r_2 = (0 : Int32) then (bnd (x4 + (1 : Int32)) fun x_3 => k7 x1 x2 x3 x_3) else (bnd (x3 + (1 : Int32)) fun x_4 => bnd1 (f_X6_sampleOf v0 x4 x1) fun r_5 => bnd (x2 + r_5) fun x_6 => bnd (x4 + (1 : Int32)) fun x_7 => k7 x1 x_6 x_4 x_7))
def fb_X6_moreOfColumn_7 (v0 : V6) : Nat → Int32 → Int32 → Int32 → Int32 → Option (Int32)
  | 0, _, _, _, _ => none
  | n + 1, x1, x2, x3, x4 => fl_X6_moreOfColumn_7 v0 (fb_X6_moreOfColumn_7 v0 n) x1 x2 x3 x4
def f_X6_moreOfColumn (v0 : V6) (p1 : Int32) : Option (Int32) := fb_X6_moreOfColumn_7 v0 FU p1 (0 : Int32) (0 : Int32) (0 : Int32)
def fl_X6_greatestColumn_4 (v0 : V6) (k4 : Int32 → Int32 → Option (Int32)) (x1 : Int32) (x2 : Int32) : Option (Int32) := if (15 : Int32) ≤ x2 then (some x1) else (bnd1 (f_X6_moreOfColumn v0 x2) fun r_1 => bnd (jmax x1 r_1) fun x_2 => bnd (x2 + (1 : Int32)) fun x_3 => k4 x_2 x_3)
def fb_X6_greatestColumn_4 (v0 : V6) : Nat → Int32 → Int32 → Option (Int32)
  | 0, _, _ => none
  | n + 1, x1, x2 => fl_X6_greatestColumn_4 v0 (fb_X6_greatestColumn_4 v0 n) x1 x2
def f_X6_greatestColumn (v0 : V6) : Option (Int32) := fb_X6_greatestColumn_4 v0 FU (0 : Int32) (0 : Int32)
def fl_X6_rowsAbove_4 (v0 : V6) (k4 : Int32 → Int32 → Int32 → Option (Int32)) (x1 : Int32) (x2 : Int32) (x3 : Int32) : Option (Int32) := if (15 : Int32) ≤ x3 then (some x2) else (bnd1 (f_X6_moreOfRow v0 x3) fun r_1 => if r_1 ≤ x1 then (bnd (x3 + (1 : Int32)) fun x_2 => k4 x1 x2 x_2) else (bnd (x2 ||| ((1 : Int32) <<< (x3 &&& 31))) fun x_3 => bnd (x3 + (1 : Int32)) fun x_4 => k4 x1 x_3 x_4))
def fb_X6_rowsAbove_4 (v0 : V6) : Nat → Int32 → Int32 → Int32 → Option (Int32)
  | 0, _, _, _ => none
  | n + 1, x1, x2, x3 => fl_X6_rowsAbove_4 v0 (fb_X6_rowsAbove_4 v0 n) x1 x2 x3
def f_X6_rowsAbove (v0 : V6) (p1 : Int32) : Option (Int32) := fb_X6_rowsAbove_4 v0 FU p1 (0 : Int32) (0 : Int32)
def fl_X6_columnsAbove_4 (v0 : V6) (k4 : Int32 → Int32 → Int32 → Option (Int32)) (x1 : Int32) (x2 : Int32) (x3 : Int32) : Option (Int32) := if (15 : Int32) ≤ x3 then (some x2) else (bnd1 (f_X6_moreOfColumn v0 x3) fun r_1 => if r_1 ≤ x1 then (bnd (x3 + (1 : Int32)) fun x_2 => k4 x1 x2 x_2) else (bnd (x2 ||| ((1 : Int32) <<< (x3 &&& 31))) fun x_3 => bnd (x3 + (1 : Int32)) fun x_4 => k4 x1 x_3 x_4))
def fb_X6_columnsAbove_4 (v0 : V6) : Nat → Int32 → Int32 → Int32 → Option (Int32)
  | 0, _, _, _ => none
  | n + 1, x1, x2, x3 => fl_X6_columnsAbove_4 v0 (fb_X6_columnsAbove_4 v0 n) x1 x2 x3
def f_X6_columnsAbove (v0 : V6) (p1 : Int32) : Option (Int32) := fb_X6_columnsAbove_4 v0 FU p1 (0 : Int32) (0 : Int32)
def f_X11_compared (v0 : V11) (p1 : Int32) : Option (Int32 × V11) := if p1 < (0 : Int32) ∨ (4 : Int32) < p1 then (some (((-1 : Int32), v0))) else if p1 = (0 : Int32) then (bnd1 (f_X6_full v0.1.2.2.2.2.2.2.1) fun r_1 => some ((r_1, v0))) else if p1 = (1 : Int32) then (bnd1 (f_X6_greatestRow v0.1.2.2.2.2.2.2.1) fun r_2 => some ((r_2, v0))) else if p1 = (2 : Int32) then (bnd1 (f_X6_greatestColumn v0.1.2.2.2.2.2.2.1) fun r_3 => some ((r_3, v0))) else if p1 = (3 : Int32) then (bnd2 (f_X11_rowsOf v0 (15 : Int32)) fun r_4 u_5 => bnd1 (f_X6_rowsAbove u_5.1.2.2.2.2.2.2.1 r_4) fun r_6 => some ((r_6, (u_5.1, v0.2.1, v0.2.2.1, v0.2.2.2.1, v0.2.2.2.2.1, u_5.2.2.2.2.2.1, v0.2.2.2.2.2.2.1, v0.2.2.2.2.2.2.2)))) else if p1 = (4 : Int32) then (bnd1 (f_X6_full v0.1.2.2.2.2.2.2.1) fun r_7 => bnd2 (f_X11_rowsOf v0 r_7) fun r_8 u_9 => bnd1 (f_X6_columnsAbove u_9.1.2.2.2.2.2.2.1 r_8) fun r_10 => some ((r_10, (u_9.1, v0.2.1, v0.2.2.1, v0.2.2.2.1, v0.2.2.2.2.1, u_9.2.2.2.2.2.1, v0.2.2.2.2.2.2.1, v0.2.2.2.2.2.2.2)))) else none
def fc_X0_measureLongest_46 (k14 : V0 → Int32 → Int32 → Option (V0)) (v0 : V0) (x1 : Int32) (x2 : Int32) : Option (V0) := if ((x2 - x1) + (1 : Int32)) ≤ v0.2.2.2.1 then (bnd (x2 + (1 : Int32)) fun x_1 => k14 v0 x1 x_1) else (bnd ((x2 - x1) + (1 : Int32)) fun x_2 => bnd (x2 + (1 : Int32)) fun x_3 => k14 ((v0.1, v0.2.1, v0.2.2.1, x_2, x1)) x1 x_3)
def fl_X0_measureLongest_14 (k14 : V0 → Int32 → Int32 → Option (V0)) (v0 : V0) (x1 : Int32) (x2 : Int32) : Option (V0) := if v0.2.2.1 ≤ x2 then (some v0) else (if (400 : Int32) ≤ x2 then (some v0) else (chkin x2 400 <| chkin x1 400 <| if (v0.1 (x2).toNatClampNeg) = (v0.1 (x1).toNatClampNeg) then (fc_X0_measureLongest_46 k14 v0 x1 x2) else (fc_X0_measureLongest_46 k14 v0 x2 x2)))
def fb_X0_measureLongest_14 : Nat → V0 → Int32 → Int32 → Option (V0)
  | 0, _, _, _ => none
  | n + 1, v0, x1, x2 => fl_X0_measureLongest_14 (fb_X0_measureLongest_14 n) v0 x1 x2
def f_X0_measureLongest (v0 : V0) : Option (V0) := fb_X0_measureLongest_14 FU ((v0.1, v0.2.1, v0.2.2.1, (0 : Int32), (0 : Int32))) (0 : Int32) (0 : Int32)
def f_X11_longest (v0 : V11) (p1 : Int32) (p2 : Int32) : Option (Int32 × V11) := bnd2 (f_X11_loadLatest v0 p1 (1 : Int32)) fun r_1 u_2 => if r_1 = (0 : Int32) then (some (((-1 : Int32), (u_2.1, v0.2.1, v0.2.2.1, v0.2.2.2.1, u_2.2.2.2.2.1, v0.2.2.2.2.2.1, v0.2.2.2.2.2.2.1, v0.2.2.2.2.2.2.2)))) else (bnd1 (f_X0_measureLongest u_2.2.2.2.2.1) fun u_3 => if p2 = (0 : Int32) then (some ((u_3.2.2.2.1, (u_2.1, v0.2.1, v0.2.2.1, v0.2.2.2.1, u_3, v0.2.2.2.2.2.1, v0.2.2.2.2.2.2.1, v0.2.2.2.2.2.2.2)))) else (some (((u_2.1.2.2.2.2.2.1.2.2 - p1) + u_3.2.2.2.2, (u_2.1, v0.2.1, v0.2.2.1, v0.2.2.2.1, u_3, v0.2.2.2.2.2.1, v0.2.2.2.2.2.2.1, v0.2.2.2.2.2.2.2)))))
def f_X8_copyFrom (v0 : V8) (v1 : V8) : Option (V8) := some ((v1.1, v1.2.1, v1.2.2))
def f_X1_copyFrom (v0 : V1) (v1 : V1) : Option (V1) := some ((v1.1, v1.2.1, v1.2.2.1, v1.2.2.2.1, v1.2.2.2.2.1, v1.2.2.2.2.2))
def f_X4_copyFrom (v0 : V4) (v1 : V4) : Option (V4) := chkcp (0 : Int32) (0 : Int32) (512 : Int32) 512 512 <| bnd (va_cpy v1.1 v0.1 ((0 : Int32)).toNatClampNeg ((0 : Int32)).toNatClampNeg ((512 : Int32)).toNatClampNeg) fun y_1 => some ((y_1, v1.2.1, v1.2.2))
def f_X3_copyFrom (v0 : V3) (v1 : V3) : Option (V3) := bnd1 (f_X4_copyFrom v0.1 v1.1) fun u_1 => some ((u_1, v1.2.1, v1.2.2.1, v1.2.2.2.1, v1.2.2.2.2.1, v1.2.2.2.2.2.1, v1.2.2.2.2.2.2))
def f_X6_copyFrom (v0 : V6) (v1 : V6) : Option (V6) := chkcp (0 : Int32) (0 : Int32) (15 : Int32) 15 15 <| bnd (va_cpy v1.1 v0.1 ((0 : Int32)).toNatClampNeg ((0 : Int32)).toNatClampNeg ((15 : Int32)).toNatClampNeg) fun y_1 => chkcp (0 : Int32) (0 : Int32) (15 : Int32) 15 15 <| bnd (va_cpy v1.2.1 v0.2.1 ((0 : Int32)).toNatClampNeg ((0 : Int32)).toNatClampNeg ((15 : Int32)).toNatClampNeg) fun y_2 => some ((y_1, y_2, v1.2.2))
def f_X9_copyFrom (v0 : V9) (v1 : V9) : Option (V9) := chkcp (0 : Int32) (0 : Int32) (300 : Int32) 300 300 <| bnd (va_cpy v1.1 v0.1 ((0 : Int32)).toNatClampNeg ((0 : Int32)).toNatClampNeg ((300 : Int32)).toNatClampNeg) fun y_1 => some ((y_1, v1.2.1, v1.2.2.1, v1.2.2.2))
def f_X10_copyFrom (v0 : V10) (v1 : V10) : Option (V10) := bnd1 (f_X7_copyFrom v0.1 v1.1) fun u_1 => bnd1 (f_X8_copyFrom v0.2.2.1 v1.2.2.1) fun u_2 => bnd1 (f_X1_copyFrom v0.2.2.2.1 v1.2.2.2.1) fun u_3 => bnd1 (f_X3_copyFrom v0.2.2.2.2.1 v1.2.2.2.2.1) fun u_4 => bnd1 (f_X4_copyFrom v0.2.2.2.2.2.1 v1.2.2.2.2.2.1) fun u_5 => bnd1 (f_X6_copyFrom v0.2.2.2.2.2.2.1 v1.2.2.2.2.2.2.1) fun u_6 => bnd1 (f_X9_copyFrom v0.2.2.2.2.2.2.2.1 v1.2.2.2.2.2.2.2.1) fun u_7 => some ((u_1, (v0.2.1.1, v0.2.1.2.1, v1.2.1.2.2.1, v1.2.1.2.2.2.1, v1.2.1.2.2.2.2), u_2, u_3, u_4, u_5, u_6, u_7, v1.2.2.2.2.2.2.2.2.1, v1.2.2.2.2.2.2.2.2.2.1, v1.2.2.2.2.2.2.2.2.2.2.1, v1.2.2.2.2.2.2.2.2.2.2.2.1, v1.2.2.2.2.2.2.2.2.2.2.2.2.1, v1.2.2.2.2.2.2.2.2.2.2.2.2.2))
def f_X11_ahead (v0 : V11) (p1 : Int32) (p2 : Int32) : Option (Int32 × V11) := if p1 < (1 : Int32) then (some (((-1 : Int32), v0))) else (if (400 : Int32) < p1 then (some (((-1 : Int32), v0))) else (if p2 < (0 : Int32) then (some (((-1 : Int32), v0))) else (if p2 ≤ (28 : Int32) then (bnd1 (f_X10_copyFrom v0.2.1 v0.1) fun u_1 => bnd2 (f_X10_drawMany u_1 p1) fun r_2 u_3 => bnd1 (f_X10_countOf u_3 p2) fun r_4 => some ((r_4, (v0.1, u_3, v0.2.2)))) else (some (((-1 : Int32), v0))))))
def fl_X11_quiet_38 (k38 : V11 → Int32 → Option (Int32 × V11)) (v0 : V11) (x1 : Int32) : Option (Int32 × V11) := if (400 : Int32) < x1 then (some (((-1 : Int32), v0))) else (bnd2 (f_X10_drawMany v0.2.1 (1 : Int32)) fun r_2 u_3 => if u_3.2.2.2.2.2.2.2.2.1 = (3 : Int32) then (some ((x1, (v0.1, u_3, v0.2.2)))) else (bnd (x1 + (1 : Int32)) fun x_4 => k38 ((v0.1, u_3, v0.2.2)) x_4))
def fb_X11_quiet_38 : Nat → V11 → Int32 → Option (Int32 × V11)
  | 0, _, _ => none
  | n + 1, v0, x1 => fl_X11_quiet_38 (fb_X11_quiet_38 n) v0 x1
def f_X11_quiet (v0 : V11) : Option (Int32 × V11) := if v0.1.2.2.2.2.2.2.2.2.1 = (3 : Int32) then (some (((0 : Int32), v0))) else (if v0.1.2.2.2.2.2.2.2.2.1 = (0 : Int32) then (some (((-1 : Int32), v0))) else (bnd1 (f_X10_copyFrom v0.2.1 v0.1) fun u_1 => fb_X11_quiet_38 FU ((v0.1, u_1, v0.2.2)) (1 : Int32)))
def fl_X11_replayed_64 (k64 : V11 → Int32 → Int32 → Int32 → Option (Int32 × V11)) (v0 : V11) (x2 : Int32) (x3 : Int32) (x4 : Int32) : Option (Int32 × V11) := if v0.1.2.2.2.2.2.1.2.2 ≤ x4 then (some ((x3, v0))) else (bnd1 (f_X4_bitAt v0.1.2.2.2.2.2.1 x4) fun r_5 => bnd1 (f_X1_hear v0.2.2.2.2.2.2.1 r_5 x2) fun u_6 => bnd1 (f_X2_failures v0.2.2.2.2.2.1 u_6) fun r_7 => if r_7 = (0 : Int32) then (bnd (x4 + (1 : Int32)) fun x_8 => k64 ((v0.1, v0.2.1, v0.2.2.1, v0.2.2.2.1, v0.2.2.2.2.1, v0.2.2.2.2.2.1, u_6, v0.2.2.2.2.2.2.2)) x2 x3 x_8) else (bnd (x3 + (1 : Int32)) fun x_9 => bnd1 (f_X1_clear u_6) fun u_10 => bnd (x4 + (1 : Int32)) fun x_11 => k64 ((v0.1, v0.2.1, v0.2.2.1, v0.2.2.2.1, v0.2.2.2.2.1, v0.2.2.2.2.2.1, u_10, v0.2.2.2.2.2.2.2)) x2 x_9 x_11))
def fb_X11_replayed_64 : Nat → V11 → Int32 → Int32 → Int32 → Option (Int32 × V11)
  | 0, _, _, _, _ => none
  | n + 1, v0, x2, x3, x4 => fl_X11_replayed_64 (fb_X11_replayed_64 n) v0 x2 x3 x4
def f_X11_replayed (v0 : V11) (p1 : Int32) : Option (Int32 × V11) := chkin (0 : Int32) 9 <| if p1 < (stL ((0 : Int32)).toNatClampNeg) then (some (((-1 : Int32), v0))) else (chkin (0 : Int32) 9 <| if p1 ≤ (stM ((0 : Int32)).toNatClampNeg) then (bnd1 (f_X7_valueOf v0.1.1 (2 : Int32)) fun r_1 => bnd1 (f_X7_valueOf v0.1.1 (1 : Int32)) fun r_2 => bnd1 (f_X2_setLimits v0.2.2.2.2.2.1 p1 r_2 r_1) fun u_3 => bnd1 (f_X1_clear v0.2.2.2.2.2.2.1) fun u_4 => fb_X11_replayed_64 FU ((v0.1, v0.2.1, v0.2.2.1, v0.2.2.2.1, v0.2.2.2.2.1, u_3, u_4, v0.2.2.2.2.2.2.2)) r_1 (0 : Int32) (0 : Int32)) else (some (((-1 : Int32), v0))))
def f_X1_raiseTo (v0 : V1) (v1 : V1) : Option (V1) := bnd (jmax v0.1 v1.1) fun x_1 => bnd (jmax v0.2.2.2.2.1 v1.2.2.2.2.1) fun x_2 => bnd (jmax v0.2.2.2.2.2 v1.2.2.2.2.2) fun x_3 => some ((x_1, v0.2.1, v0.2.2.1, v0.2.2.2.1, x_2, x_3))
def fl_X11_measurePeaks_16 (k16 : V11 → Int32 → Option (V11)) (v0 : V11) (x1 : Int32) : Option (V11) := if v0.1.2.2.2.2.2.1.2.2 ≤ x1 then (some v0) else (bnd1 (f_X4_bitAt v0.1.2.2.2.2.2.1 x1) fun r_3 => bnd1 (f_X7_valueOf v0.1.1 (2 : Int32)) fun r_4 => bnd1 (f_X1_hear v0.2.2.2.2.2.2.1 r_3 r_4) fun u_5 => bnd1 (f_X1_raiseTo v0.2.2.2.2.2.2.2 u_5) fun u_6 => bnd (x1 + (1 : Int32)) fun x_7 => k16 ((v0.1, v0.2.1, v0.2.2.1, v0.2.2.2.1, v0.2.2.2.2.1, v0.2.2.2.2.2.1, u_5, u_6)) x_7)
def fb_X11_measurePeaks_16 : Nat → V11 → Int32 → Option (V11)
  | 0, _, _ => none
  | n + 1, v0, x1 => fl_X11_measurePeaks_16 (fb_X11_measurePeaks_16 n) v0 x1
def f_X11_measurePeaks (v0 : V11) : Option (V11) := bnd1 (f_X1_clear v0.2.2.2.2.2.2.1) fun u_1 => bnd1 (f_X1_clear v0.2.2.2.2.2.2.2) fun u_2 => fb_X11_measurePeaks_16 FU ((v0.1, v0.2.1, v0.2.2.1, v0.2.2.2.1, v0.2.2.2.2.1, v0.2.2.2.2.2.1, u_1, u_2)) (0 : Int32)
def f_X11_peaksPass (v0 : V11) (p1 : Int32) (p2 : Int32) : Option (Int32 × V11) := bnd1 (f_X7_valueOf v0.1.1 (2 : Int32)) fun r_1 => bnd1 (f_X2_setLimits v0.2.2.2.2.2.1 p1 p2 r_1) fun u_2 => bnd1 (f_X2_failures u_2 v0.2.2.2.2.2.2.2) fun r_3 => if r_3 = (0 : Int32) then (some (((1 : Int32), (v0.1, v0.2.1, v0.2.2.1, v0.2.2.2.1, v0.2.2.2.2.1, u_2, v0.2.2.2.2.2.2)))) else (some (((0 : Int32), (v0.1, v0.2.1, v0.2.2.1, v0.2.2.2.1, v0.2.2.2.2.1, u_2, v0.2.2.2.2.2.2))))
def fl_X11_fit_10 (k10 : V11 → Int32 → Option (Int32 × V11)) (v0 : V11) (x1 : Int32) : Option (Int32 × V11) := chkin (0 : Int32) 9 <| if (stM ((0 : Int32)).toNatClampNeg) < x1 then (some (((-1 : Int32), v0))) else (bnd1 (f_X7_valueOf v0.1.1 (1 : Int32)) fun r_3 => bnd2 (f_X11_peaksPass v0 x1 r_3) fun r_4 u_5 => if r_4 = (0 : Int32) then (bnd (x1 + (1 : Int32)) fun x_6 => k10 ((u_5.1, v0.2.1, v0.2.2.1, v0.2.2.2.1, v0.2.2.2.2.1, u_5.2.2.2.2.2.1, v0.2.2.2.2.2.2.1, u_5.2.2.2.2.2.2.2)) x_6) else (some ((x1, (u_5.1, v0.2.1, v0.2.2.1, v0.2.2.2.1, v0.2.2.2.2.1, u_5.2.2.2.2.2.1, v0.2.2.2.2.2.2.1, u_5.2.2.2.2.2.2.2)))))
def fb_X11_fit_10 : Nat → V11 → Int32 → Option (Int32 × V11)
  | 0, _, _ => none
  | n + 1, v0, x1 => fl_X11_fit_10 (fb_X11_fit_10 n) v0 x1
def f_X11_fit (v0 : V11) : Option (Int32 × V11) := bnd1 (f_X11_measurePeaks v0) fun u_1 => chkin (0 : Int32) 9 <| bnd (stL ((0 : Int32)).toNatClampNeg) fun x_2 => fb_X11_fit_10 FU ((u_1.1, v0.2.1, v0.2.2.1, v0.2.2.2.1, v0.2.2.2.2.1, v0.2.2.2.2.2.1, u_1.2.2.2.2.2.2)) x_2
def fl_X11_keen_10 (k10 : V11 → Int32 → Option (Int32 × V11)) (v0 : V11) (x1 : Int32) : Option (Int32 × V11) := chkin (1 : Int32) 9 <| if (stM ((1 : Int32)).toNatClampNeg) < x1 then (some (((-1 : Int32), v0))) else (bnd1 (f_X7_valueOf v0.1.1 (0 : Int32)) fun r_3 => bnd2 (f_X11_peaksPass v0 r_3 x1) fun r_4 u_5 => if r_4 = (0 : Int32) then (bnd (x1 + (1 : Int32)) fun x_6 => k10 ((u_5.1, v0.2.1, v0.2.2.1, v0.2.2.2.1, v0.2.2.2.2.1, u_5.2.2.2.2.2.1, v0.2.2.2.2.2.2.1, u_5.2.2.2.2.2.2.2)) x_6) else (some ((x1, (u_5.1, v0.2.1, v0.2.2.1, v0.2.2.2.1, v0.2.2.2.2.1, u_5.2.2.2.2.2.1, v0.2.2.2.2.2.2.1, u_5.2.2.2.2.2.2.2)))))
def fb_X11_keen_10 : Nat → V11 → Int32 → Option (Int32 × V11)
  | 0, _, _ => none
  | n + 1, v0, x1 => fl_X11_keen_10 (fb_X11_keen_10 n) v0 x1
def f_X11_keen (v0 : V11) : Option (Int32 × V11) := bnd1 (f_X11_measurePeaks v0) fun u_1 => chkin (1 : Int32) 9 <| bnd (stL ((1 : Int32)).toNatClampNeg) fun x_2 => fb_X11_keen_10 FU ((u_1.1, v0.2.1, v0.2.2.1, v0.2.2.2.1, v0.2.2.2.2.1, v0.2.2.2.2.2.1, u_1.2.2.2.2.2.2)) x_2
def f_X11_image (v0 : V11) (p1 : Int32) : Option (Int32) := if p1 < (0 : Int32) then (some (0 : Int32)) else (if p1 < (3 : Int32) then (none) else (some (0 : Int32)))
def f_X11_again (v0 : V11) (p1 : Int32) : Option (Int32) := if p1 < (0 : Int32) then (some (0 : Int32)) else (if (3 : Int32) ≤ p1 then (some (0 : Int32)) else (chkin p1 3 <| chknull (v0.2.2.1 (p1).toNatClampNeg) <| some (0 : Int32)))
def f_X11_image_new (v0 : V11) (p1 : Int32) : Option V10 := bnd1 f_X10_init fun u_2 => bnd1 (f_X10_copyFrom u_2 v0.1) fun u_4 => some u_4
def f_X11_image_old (v0 : V11) (v2 : V10) (p1 : Int32) : Option V10 := bnd1 (f_X10_copyFrom v2 v0.1) fun u_1 => some u_1
def f_X11_again_old (v0 : V11) (v2 : V10) (p1 : Int32) : Option V10 := bnd1 (f_X10_copyFrom v0.1 v2) fun u_1 => some u_1
end mp_11_fX
