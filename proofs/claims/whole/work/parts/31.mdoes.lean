/-! the reference's act: eight places of its row of states -/
def gp8 (F : Nat → Int32) (b : Nat) (st : Nat → Int32) : Nat → Int32 := fun j => if b ≤ j ∧ j < b + 8 then st (j - b) else F j
theorem gp8_at (F st : Nat → Int32) (b : Nat) {k : Nat} (h : k < 8) : gp8 F b st (b + k) = st k := by
  unfold gp8
  rw [if_pos ⟨by omega, by omega⟩]
  congr 1
  omega
theorem gp8_a0 (F st : Nat → Int32) (b : Nat) : gp8 F b st b = st 0 := gp8_at F st b (k := 0) (by decide)
theorem gp8_upd (F st : Nat → Int32) (b : Nat) {k : Nat} (x : Int32) (h : k < 8) : upd (gp8 F b st) (b + k) x = gp8 F b (upd st k x) := by
  funext j
  by_cases hj : j = b + k
  · subst hj
    rw [upd_self, gp8_at _ _ _ h, upd_self]
  · rw [upd_ne _ _ hj]
    unfold gp8
    by_cases hr : b ≤ j ∧ j < b + 8
    · rw [if_pos hr, if_pos hr, upd_ne _ _ (by omega)]
    · rw [if_neg hr, if_neg hr]
theorem gp8_u0 (F st : Nat → Int32) (b : Nat) (x : Int32) : upd (gp8 F b st) b x = gp8 F b (upd st 0 x) := gp8_upd F st b (k := 0) x (by decide)
theorem gp8_self (F : Nat → Int32) (b : Nat) : gp8 F b (fun k => F (b + k)) = F := by
  funext j
  unfold gp8
  by_cases hr : b ≤ j ∧ j < b + 8
  · rw [if_pos hr]
    show F (b + (j - b)) = F j
    rw [show b + (j - b) = j by omega]
  · rw [if_neg hr]
theorem gp8_congr (F : Nat → Int32) (b : Nat) {st st1 : Nat → Int32} (h : ∀ k, k < 8 → st k = st1 k) : gp8 F b st = gp8 F b st1 := by
  funext j
  unfold gp8
  by_cases hr : b ≤ j ∧ j < b + 8
  · rw [if_pos hr, if_pos hr, h _ (by omega)]
  · rw [if_neg hr, if_neg hr]
theorem gp8_out (F st : Nat → Int32) (b : Nat) {j : Nat} (h : ¬ (b ≤ j ∧ j < b + 8)) : gp8 F b st j = F j := if_neg h
theorem gx_ix {b k : Nat} (K : Int32) (hb : b + 8 ≤ 1024) (hk : k < 8) (hK : K = nI k) : vp_in (nI b + K) 1024 ∧ (nI b + K).toNatClampNeg = b + k := by
  subst hK
  rw [nI_add]
  exact ⟨vp_in_nI (by omega) (by decide), nI_clamp (by omega)⟩
theorem gx_i0 {b : Nat} (hb : b + 8 ≤ 1024) : vp_in (nI b) 1024 ∧ (nI b).toNatClampNeg = b := ⟨vp_in_nI (by omega) (by decide), nI_clamp (by omega)⟩
theorem p_X11_in {a b c : Int32} {u : gg_M} {Q : Int32 → gg_M → Prop} (h : Q (if b ≤ a ∧ a ≤ c then 1 else 0) u) : w_X11_in a b c u Q := by
  unfold w_X11_in w_X11_in_c14 w_X11_in_c15
  grind
theorem p_X11_isIn {a b : Int32} {u : gg_M} {Q : Int32 → gg_M → Prop} (h : Q (if ((a >>> (b &&& 31)) &&& 1) = 1 then 1 else 0) u) : w_X11_isIn a b u Q := by
  unfold w_X11_isIn w_X11_isIn_c14
  grind
theorem i32_lt {P : Int32 → Prop} {a : Int32} (n : Nat) (N : Int32) (hn : N = nI n) (hl : n < 2 ^ 31) (h0 : 0 ≤ a) (h1 : a < N) (h : ∀ k, k < n → P (nI k)) : P a := by
  obtain ⟨j, hj, rfl⟩ := nI_of (x := a) (fun q => by grind)
  subst hn
  exact h j ((nI_ltI hj hl).mp h1)
theorem dz_b0 {a : Int32} (h0 : 0 ≤ a) (h1 : a < 32) : ((a >>> ((0 : Int32) &&& 31)) &&& 1) = 1 ↔ ¬ (a &&& 1) = 0 := i32_lt (P := fun a => ((a >>> ((0 : Int32) &&& 31)) &&& 1) = 1 ↔ ¬ (a &&& 1) = 0) 32 32 rfl (by decide) h0 h1 (by decide +kernel)
theorem dz_b1 {a : Int32} (h0 : 0 ≤ a) (h1 : a < 32) : ((a >>> ((1 : Int32) &&& 31)) &&& 1) = 1 ↔ ¬ (a &&& 2) = 0 := i32_lt (P := fun a => ((a >>> ((1 : Int32) &&& 31)) &&& 1) = 1 ↔ ¬ (a &&& 2) = 0) 32 32 rfl (by decide) h0 h1 (by decide +kernel)
theorem dz_b2 {a : Int32} (h0 : 0 ≤ a) (h1 : a < 32) : ((a >>> ((2 : Int32) &&& 31)) &&& 1) = 1 ↔ ¬ (a &&& 4) = 0 := i32_lt (P := fun a => ((a >>> ((2 : Int32) &&& 31)) &&& 1) = 1 ↔ ¬ (a &&& 4) = 0) 32 32 rfl (by decide) h0 h1 (by decide +kernel)
theorem dz_b3 {a : Int32} (h0 : 0 ≤ a) (h1 : a < 32) : ((a >>> ((3 : Int32) &&& 31)) &&& 1) = 1 ↔ ¬ (a &&& 8) = 0 := i32_lt (P := fun a => ((a >>> ((3 : Int32) &&& 31)) &&& 1) = 1 ↔ ¬ (a &&& 8) = 0) 32 32 rfl (by decide) h0 h1 (by decide +kernel)
theorem dz_b4 {a : Int32} (h0 : 0 ≤ a) (h1 : a < 32) : ((a >>> ((4 : Int32) &&& 31)) &&& 1) = 1 ↔ ¬ (a &&& 16) = 0 := i32_lt (P := fun a => ((a >>> ((4 : Int32) &&& 31)) &&& 1) = 1 ↔ ¬ (a &&& 16) = 0) 32 32 rfl (by decide) h0 h1 (by decide +kernel)
theorem dz_a29 {a : Int32} (h0 : 0 ≤ a) (h1 : a < 32) : a &&& 29 = a &&& (-3) := i32_lt (P := fun a => a &&& 29 = a &&& (-3)) 32 32 rfl (by decide) h0 h1 (by decide +kernel)
theorem dz_a23 {a : Int32} (h0 : 0 ≤ a) (h1 : a < 32) : a &&& 23 = a &&& (-9) := i32_lt (P := fun a => a &&& 23 = a &&& (-9)) 32 32 rfl (by decide) h0 h1 (by decide +kernel)
/-- what holds of a motor's numbers, of a state's -/
def dz_M (mv : Nat → Int32) : Prop := (0 ≤ mv 0 ∧ mv 0 ≤ 9) ∧ (0 ≤ mv 1 ∧ mv 1 ≤ 9) ∧ (0 ≤ mv 2 ∧ mv 2 ≤ 20) ∧ (0 ≤ mv 3 ∧ mv 3 ≤ 9) ∧ (0 ≤ mv 4 ∧ mv 4 ≤ 9) ∧ (0 ≤ mv 5 ∧ mv 5 ≤ 30) ∧ 0 ≤ mv 6 ∧ mv 6 ≤ 99
def dz_O (mv st : Nat → Int32) : Prop := (0 ≤ st 0 ∧ st 0 ≤ mv 5) ∧ (0 ≤ st 1 ∧ st 1 ≤ 99) ∧ (0 ≤ st 2 ∧ st 2 ≤ 60) ∧ (0 ≤ st 3 ∧ st 3 ≤ 99) ∧ (0 ≤ st 4 ∧ st 4 ≤ 20) ∧ (0 ≤ st 5 ∧ st 5 ≤ 5) ∧ (0 ≤ st 6 ∧ st 6 < 32) ∧ (st 7 = 0 ∨ st 7 = 1)
theorem p_lightFor {a : Int32} {u : gg_M} {Q : Int32 → gg_M → Prop} (h0 : 0 ≤ a) (h1 : a < 10) (h : Q (dz_lf a) u) : w_X11_lightFor a u Q := by
  unfold w_X11_lightFor w_X11_lightFor_c63
  have e : dz_lf a = if 4 ≤ a then (if a = 4 then 10 else if a = 5 then 8 else if a = 6 then 6 else if a = 7 then 2 else if a = 8 then 12 else 15) else 1 :=
    i32_lt (P := fun a => dz_lf a = if 4 ≤ a then (if a = 4 then 10 else if a = 5 then 8 else if a = 6 then 6 else if a = 7 then 2 else if a = 8 then 12 else 15) else 1) 10 10 rfl (by decide) h0 h1 (by decide +kernel)
  rw [e] at h
  grind
theorem p_mturns_c317 {b : Nat} {mix sg : Int32} {u : gg_M} {F st : Nat → Int32} {Q : Int32 → gg_M → Prop} (hb : b + 8 ≤ 1024)
    (h2 : sg = 2 → Q 2 (gg_wA u 51 (gp8 F b (upd st 7 1))))
    (hn : ¬ sg = 2 → Q sg (gg_wA u 51 (gp8 F b (upd (upd st 3 (dz_min 99 (st 3 + dz_max 0 (mix - 9)))) 4 (dz_min 20 (st 4 + if sg = 0 then 1 else 2))))))
    (hm : -1000 ≤ mix ∧ mix ≤ 1000) : w_X11_turns_c317 (nI b) mix sg (gg_wA u 51 (gp8 F b st)) Q := by
  unfold w_X11_turns_c317 w_X11_turns_c359 w_X11_turns_c383 w_X11_turns_c402 w_X11_turns_c426
  have i3 := gx_ix 3 hb (show 3 < 8 by decide) rfl
  have i4 := gx_ix 4 hb (show 4 < 8 by decide) rfl
  have i7 := gx_ix 7 hb (show 7 < 8 by decide) rfl
  refine ⟨fun c1 => ⟨i3.1, ?_⟩, fun c1 => ⟨i7.1, ?_⟩⟩
  · have key : ∀ w, w = dz_max 0 (mix - 9) → ∀ v9, v9 = (gg_wA u 51 (gp8 F b st)).1 51 ((nI b + 3).toNatClampNeg) + w → ∀ z, z = dz_min 99 v9 → ∀ y, y = gg_wI (gg_wA u 51 (gp8 F b st)) 51 ((nI b + 3).toNatClampNeg) z →
        ∀ r, r = (if sg = 0 then 1 else 2) → ∀ v3, v3 = y.1 51 ((nI b + 4).toNatClampNeg) + r → ∀ m, m = dz_min 20 v3 → Q sg (gg_wI y 51 ((nI b + 4).toNatClampNeg) m) := by
      rintro w rfl v9 rfl z rfl y rfl r rfl v3 rfl m rfl
      have := hn c1
      simpa only [gm_I, gm_AA, gg_wA_1, i3.2, i4.2, gp8_at F _ b (show 3 < 8 by decide), gp8_at F _ b (show 4 < 8 by decide), gp8_upd F _ b _ (show 3 < 8 by decide), gp8_upd F _ b _ (show 4 < 8 by decide), upd_ne st _ (show (4 : Nat) ≠ 3 by decide)] using this
    have fin : ∀ y, (∀ r, r = (if sg = 0 then 1 else 2) → ∀ v3, v3 = y.1 51 ((nI b + 4).toNatClampNeg) + r → ∀ m, m = dz_min 20 v3 → Q sg (gg_wI y 51 ((nI b + 4).toNatClampNeg) m)) → vp_in (nI b + 4) 1024 ∧ (¬ sg = 0 → ∀ v3, v3 = y.1 51 ((nI b + 4).toNatClampNeg) + 2 → (v3 ≤ 20 → vp_in (nI b + 4) 1024 ∧ ∀ u2, u2 = gg_wI y 51 ((nI b + 4).toNatClampNeg) v3 → Q sg u2) ∧ (¬ v3 ≤ 20 → vp_in (nI b + 4) 1024 ∧ ∀ u2, u2 = gg_wI y 51 ((nI b + 4).toNatClampNeg) 20 → Q sg u2)) ∧ (sg = 0 → ∀ v3, v3 = y.1 51 ((nI b + 4).toNatClampNeg) + 1 → (v3 ≤ 20 → vp_in (nI b + 4) 1024 ∧ ∀ u2, u2 = gg_wI y 51 ((nI b + 4).toNatClampNeg) v3 → Q sg u2) ∧ (¬ v3 ≤ 20 → vp_in (nI b + 4) 1024 ∧ ∀ u2, u2 = gg_wI y 51 ((nI b + 4).toNatClampNeg) 20 → Q sg u2)) := by
      intro y hy
      refine ⟨i4.1, fun c2 v3 e3 => ⟨fun c3 => ⟨i4.1, ?_⟩, fun c3 => ⟨i4.1, ?_⟩⟩, fun c2 v3 e3 => ⟨fun c3 => ⟨i4.1, ?_⟩, fun c3 => ⟨i4.1, ?_⟩⟩⟩
      · rintro _ rfl
        exact hy 2 (by rw [if_neg c2]) v3 e3 v3 (by unfold dz_min; grind)
      · rintro _ rfl
        exact hy 2 (by rw [if_neg c2]) v3 e3 20 (by unfold dz_min; grind)
      · rintro _ rfl
        exact hy 1 (by rw [if_pos c2]) v3 e3 v3 (by unfold dz_min; grind)
      · rintro _ rfl
        exact hy 1 (by rw [if_pos c2]) v3 e3 20 (by unfold dz_min; grind)
    refine ⟨fun c2 v9 e9 => ⟨fun c3 => ⟨i3.1, ?_⟩, fun c3 => ⟨i3.1, ?_⟩⟩, fun c2 v9 e9 => ⟨fun c3 => ⟨i3.1, ?_⟩, fun c3 => ⟨i3.1, ?_⟩⟩⟩
    · intro y hy
      exact fin y (key 0 (by unfold dz_max; grind) v9 e9 v9 (by unfold dz_min; grind) y hy)
    · intro y hy
      exact fin y (key 0 (by unfold dz_max; grind) v9 e9 99 (by unfold dz_min; grind) y hy)
    · intro y hy
      exact fin y (key (mix - 9) (by unfold dz_max; grind) v9 e9 v9 (by unfold dz_min; grind) y hy)
    · intro y hy
      exact fin y (key (mix - 9) (by unfold dz_max; grind) v9 e9 99 (by unfold dz_min; grind) y hy)
  · rintro _ rfl
    have := h2 c1
    simpa only [gm_I, gm_AA, gg_wA_1, i7.2, gp8_upd F _ b _ (show 7 < 8 by decide)] using this
theorem p_mturns_c291 {a1 a8 a9 a10 : Int32} {u : gg_M} {Q : Int32 → gg_M → Prop} (h : w_X11_turns_c317 a1 a8 (if 3 ≤ a8 ∧ a8 ≤ 10 ∧ 3 ≤ a9 ∧ 4 ≤ a10 then 1 else 0) u Q) : w_X11_turns_c291 a1 a8 a9 a10 0 u Q := by
  unfold w_X11_turns_c291
  refine p_X11_in ?_
  grind
theorem p_mturns_c234 {a1 a8 a9 a10 z0 z1 : Int32} {u : gg_M} {Q : Int32 → gg_M → Prop} (h : w_X11_turns_c317 a1 a8 (dz_sg a8 a9 a10 (z0 - z1)) u Q) : w_X11_turns_c234 a1 a8 a9 a10 z0 z1 u Q := by
  unfold w_X11_turns_c234 w_X11_turns_c286
  unfold dz_sg at h
  have key := @p_mturns_c291 a1 a8 a9 a10 u Q
  rintro v21 rfl
  refine p_X11_in ?_
  grind
theorem p_mturns_c199 {b : Nat} {bad mix fat z0 z1 : Int32} {u : gg_M} {Q : Int32 → gg_M → Prop} (hb : b + 8 ≤ 1024) (h60 : 0 ≤ bad) (h61 : bad < 32)
    (h : w_X11_turns_c317 (nI b) mix (dz_sg mix fat (z0 - z1 + u.1 51 (b + 4) / 6) (u.1 49 2 - if bad &&& 8 = 0 then 0 else 6)) u Q) : w_X11_turns_c199 (nI b) bad mix fat z0 z1 u Q := by
  unfold w_X11_turns_c199
  have i4 := gx_ix 4 hb (show 4 < 8 by decide) rfl
  refine ⟨i4.1, ?_⟩
  rintro v30 rfl
  rw [i4.2]
  refine p_X11_isIn ?_
  by_cases q : bad &&& 8 = 0
  · rw [if_neg (fun z => (dz_b3 h60 h61).mp z q)]
    rw [if_pos q] at h
    exact ⟨fun _ => p_mturns_c234 h, fun z => absurd rfl z⟩
  · rw [if_pos ((dz_b3 h60 h61).mpr q)]
    rw [if_neg q] at h
    exact ⟨fun z => absurd z (by decide), fun _ => p_mturns_c234 h⟩
theorem p_mturns_c156 {b : Nat} {bad mix z0 z1 : Int32} {u : gg_M} {Q : Int32 → gg_M → Prop} (hb : b + 8 ≤ 1024) (h60 : 0 ≤ bad) (h61 : bad < 32)
    (h : w_X11_turns_c317 (nI b) mix (dz_sg mix (z0 - z1 + u.1 51 b / 8 - u.1 51 (b + 3) / 3) (u.1 49 0 - (if bad &&& 1 = 0 then 0 else 4) + u.1 51 (b + 4) / 6) (u.1 49 2 - if bad &&& 8 = 0 then 0 else 6)) u Q) : w_X11_turns_c156 (nI b) bad mix z0 z1 u Q := by
  unfold w_X11_turns_c156
  have i0 := gx_i0 hb
  have i3 := gx_ix 3 hb (show 3 < 8 by decide) rfl
  refine ⟨i0.1, i3.1, ?_⟩
  rintro v36 rfl
  rw [i0.2, i3.2]
  refine p_X11_isIn ?_
  by_cases q : bad &&& 1 = 0
  · rw [if_neg (fun z => (dz_b0 h60 h61).mp z q)]
    rw [if_pos q] at h
    exact ⟨fun _ => p_mturns_c199 hb h60 h61 h, fun z => absurd rfl z⟩
  · rw [if_pos ((dz_b0 h60 h61).mpr q)]
    rw [if_neg q] at h
    exact ⟨fun z => absurd z (by decide), fun _ => p_mturns_c199 hb h60 h61 h⟩
theorem p_mturns_c65 {b : Nat} {c : Int32} {u : gg_M} {F st : Nat → Int32} {Q : Int32 → gg_M → Prop} (hb : b + 8 ≤ 1024) (h60 : 0 ≤ st 6) (h61 : st 6 < 32) (hm : -1000 ≤ dz_mix (u.1 49) st c ∧ dz_mix (u.1 49) st c ≤ 1000)
    (h : Q (dz_ts (u.1 49) st c) (gg_wA u 51 (gp8 F b (dz_tn (u.1 49) st c)))) : w_X11_turns_c65 (nI b) (st 6) (dz_drawn (u.1 49) st c) (gg_wA u 51 (gp8 F b st)) Q := by
  unfold w_X11_turns_c65
  have i2 := gx_ix 2 hb (show 2 < 8 by decide) rfl
  have i5 := gx_ix 5 hb (show 5 < 8 by decide) rfl
  have n49 : ∀ f : Nat → Int32, (gg_wA u 51 f).1 49 = u.1 49 := fun f => gg_wA_n u f (by decide)
  intro v40 e40
  refine ⟨i2.1, fun v42 e42 => ⟨i5.1, fun v44 e44 => ⟨i2.1, i2.1, ?_⟩⟩⟩
  rintro _ rfl
  refine ⟨i5.1, ?_⟩
  rintro _ rfl
  simp only [gm_I, gm_AA, gg_wA_1, n49, i2.2, i5.2, gp8_at F _ b (show 2 < 8 by decide), gp8_at F _ b (show 5 < 8 by decide), gp8_upd F _ b _ (show 2 < 8 by decide), gp8_upd F _ b _ (show 5 < 8 by decide)] at e40 e42 e44 ⊢
  have e44' : v44 = dz_mix (u.1 49) st c := by
    rw [e44, e42, e40]
    unfold dz_mix
    grind
  have ew : st 2 + (v40 - v42) = dz_wall (u.1 49) st c := by rw [e42, e40]; rfl
  rw [ew, e44']
  generalize hst1 : upd (upd st 2 (dz_wall (u.1 49) st c)) 5 0 = st1
  have s0 : st1 0 = st 0 := by rw [← hst1]; rfl
  have s1 : st1 1 = st 1 := by rw [← hst1]; rfl
  have s2 : st1 2 = dz_wall (u.1 49) st c := by rw [← hst1]; rfl
  have s3 : st1 3 = st 3 := by rw [← hst1]; rfl
  have s4 : st1 4 = st 4 := by rw [← hst1]; rfl
  have s5 : st1 5 = 0 := by rw [← hst1]; rfl
  have s6 : st1 6 = st 6 := by rw [← hst1]; rfl
  have s7 : st1 7 = st 7 := by rw [← hst1]; rfl
  have fin : w_X11_turns_c317 (nI b) (dz_mix (u.1 49) st c) (dz_ts (u.1 49) st c) (gg_wA u 51 (gp8 F b st1)) Q := by
    refine p_mturns_c317 hb (fun e2 => ?_) (fun e2 => ?_) hm
    · have hn : dz_tn (u.1 49) st c = dz_mk st (st 0) (st 1) (dz_wall (u.1 49) st c) (st 3) (st 4) 0 (st 6) 1 := if_pos e2
      rw [hn, e2] at h
      rwa [gp8_congr F b (lt8 (P := fun k => upd st1 7 1 k = dz_mk st (st 0) (st 1) (dz_wall (u.1 49) st c) (st 3) (st 4) 0 (st 6) 1 k) s0 s1 s2 s3 s4 s5 s6 rfl)]
    · have hn : dz_tn (u.1 49) st c = _ := if_neg e2
      rw [hn] at h
      rw [s3, s4]
      rwa [gp8_congr F b (lt8 (P := fun k => upd (upd st1 3 (dz_min 99 (st 3 + dz_max 0 (dz_mix (u.1 49) st c - 9)))) 4 (dz_min 20 (st 4 + if dz_ts (u.1 49) st c = 0 then 1 else 2)) k = dz_mk st (st 0) (st 1) (dz_wall (u.1 49) st c) (dz_min 99 (st 3 + dz_max 0 (dz_mix (u.1 49) st c - 9))) (dz_min 20 (st 4 + if dz_ts (u.1 49) st c = 0 then 1 else 2)) 0 (st 6) (st 7) k) s0 s1 s2 rfl rfl s5 s6 s7)]
  have m51 : ∀ k, k < 8 → (gg_wA u 51 (gp8 F b st1)).1 51 (b + k) = st1 k := fun k hk => by rw [gg_wA_1, gp8_at _ _ _ hk]
  have m0 : (gg_wA u 51 (gp8 F b st1)).1 51 b = st1 0 := by rw [gg_wA_1, gp8_a0]
  have go : ∀ z1, z1 = (if st 6 &&& 2 = 0 then 0 else 5) → w_X11_turns_c156 (nI b) (st 6) (dz_mix (u.1 49) st c) (u.1 49 1) z1 (gg_wA u 51 (gp8 F b st1)) Q := by
    rintro z1 rfl
    refine p_mturns_c156 hb h60 h61 ?_
    rw [m51 3 (by decide), m51 4 (by decide), m0, n49, s0, s3, s4]
    have ef : u.1 49 1 - (if st 6 &&& 2 = 0 then 0 else 5) + st 0 / 8 - st 3 / 3 = dz_fat (u.1 49) st := by unfold dz_fat; grind
    have ep : u.1 49 0 - (if st 6 &&& 1 = 0 then 0 else 4) + st 4 / 6 = dz_push (u.1 49) st := by unfold dz_push; grind
    rw [ef, ep]
    exact fin
  refine p_X11_isIn ?_
  by_cases q : st 6 &&& 2 = 0
  · rw [if_neg (fun z => (dz_b1 h60 h61).mp z q)]
    exact ⟨fun _ => go 0 (by rw [if_pos q]), fun z => absurd rfl z⟩
  · rw [if_pos ((dz_b1 h60 h61).mpr q)]
    exact ⟨fun z => absurd z (by decide), fun _ => go 5 (by rw [if_neg q])⟩
theorem p_mturns {b : Nat} {c : Int32} {u : gg_M} {F st : Nat → Int32} {Q : Int32 → gg_M → Prop} (hb : b + 8 ≤ 1024) (h60 : 0 ≤ st 6) (h61 : st 6 < 32) (hm : -1000 ≤ dz_mix (u.1 49) st c ∧ dz_mix (u.1 49) st c ≤ 1000)
    (h : Q (dz_ts (u.1 49) st c) (gg_wA u 51 (gp8 F b (dz_tn (u.1 49) st c)))) : w_X11_turns (nI b) c (gg_wA u 51 (gp8 F b st)) Q := by
  unfold w_X11_turns w_X11_turns_c39 w_X11_turns_c43 w_X11_turns_c44
  have i4 := gx_ix 4 hb (show 4 < 8 by decide) rfl
  have i6 := gx_ix 6 hb (show 6 < 8 by decide) rfl
  have n49 : (gg_wA u 51 (gp8 F b st)).1 49 = u.1 49 := gg_wA_n u _ (by decide)
  have m4 : (gg_wA u 51 (gp8 F b st)).1 51 (b + 4) = st 4 := by rw [gg_wA_1, gp8_at _ _ _ (by decide)]
  have m6 : (gg_wA u 51 (gp8 F b st)).1 51 (b + 6) = st 6 := by rw [gg_wA_1, gp8_at _ _ _ (by decide)]
  have go := p_mturns_c65 hb h60 h61 hm h
  refine ⟨i6.1, ?_⟩
  rintro v55 rfl
  rw [i6.2, m6]
  unfold dz_drawn at go
  have B2 := dz_b2 h60 h61
  have B4 := dz_b4 h60 h61
  refine p_X11_isIn ?_
  by_cases q : st 6 &&& 4 = 0
  · rw [if_neg (fun z => B2.mp z q)]
    refine ⟨fun z => absurd rfl z, fun _ => p_X11_isIn ?_⟩
    by_cases q4 : st 6 &&& 16 = 0
    · rw [if_neg (fun z => B4.mp z q4)]
      rw [if_neg (by simp [q, q4])] at go
      exact ⟨fun _ => ⟨fun _ => by rw [n49]; exact go, fun z => absurd rfl z⟩, fun z => absurd rfl z⟩
    · rw [if_pos (B4.mpr q4)]
      refine ⟨fun z => absurd z (by decide), fun _ => ⟨i4.1, ?_⟩⟩
      rw [i4.2, m4]
      refine ⟨fun c6 => ⟨fun _ => ?_, fun z => absurd rfl z⟩, fun c6 => ⟨fun z => absurd z (by decide), fun _ => ?_⟩⟩
      · rw [if_neg (by simp [q, c6])] at go
        rw [n49]
        exact go
      · rw [if_pos (Or.inr ⟨q4, c6⟩)] at go
        exact go
  · rw [if_pos (B2.mpr q)]
    rw [if_pos (Or.inl q)] at go
    exact ⟨fun _ => ⟨fun z => absurd z (by decide), fun _ => go⟩, fun z => absurd z (by decide)⟩
