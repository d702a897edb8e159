/-! bounds of a state, and the reference's act -/
theorem dz_q4 {x : Int32} (h0 : 0 ≤ x) (h1 : x ≤ 60) : 0 ≤ x / 4 ∧ x / 4 ≤ 15 ∧ x - x / 4 ≤ 45 ∧ 0 ≤ x - x / 4 := i32_lt (P := fun x => 0 ≤ x / 4 ∧ x / 4 ≤ 15 ∧ x - x / 4 ≤ 45 ∧ 0 ≤ x - x / 4) 61 61 rfl (by decide) h0 (by grind) (by decide +kernel)
theorem dz_q5 {x : Int32} (h0 : 0 ≤ x) (h1 : x ≤ 9) : 0 ≤ x / 5 ∧ x / 5 ≤ 1 := i32_lt (P := fun x => 0 ≤ x / 5 ∧ x / 5 ≤ 1) 10 10 rfl (by decide) h0 (by grind) (by decide +kernel)
theorem dz_laid {d m : Int32} (h0 : 0 ≤ d) (h1 : d ≤ 15) (h2 : 0 ≤ m) (h3 : m ≤ 9) : 0 ≤ d * m / 10 ∧ d * m / 10 ≤ 13 ∧ d * m / 10 ≤ d :=
  i32_lt (P := fun d => 0 ≤ d * m / 10 ∧ d * m / 10 ≤ 13 ∧ d * m / 10 ≤ d) 16 16 rfl (by decide) h0 (by grind) (fun k hk =>
    i32_lt (P := fun m => 0 ≤ nI k * m / 10 ∧ nI k * m / 10 ≤ 13 ∧ nI k * m / 10 ≤ nI k) 10 10 rfl (by decide) h2 (by grind) (fun j hj => (show ∀ k, k < 16 → ∀ j, j < 10 → 0 ≤ nI k * nI j / 10 ∧ nI k * nI j / 10 ≤ 13 ∧ nI k * nI j / 10 ≤ nI k by decide +kernel) k hk j hj))
theorem dz_drawn_b {mv st : Nat → Int32} {c : Int32} (hM : dz_M mv) (h0 : 0 ≤ c) (h1 : c < 4) : 0 ≤ dz_drawn mv st c ∧ dz_drawn mv st c ≤ 15 := by
  obtain ⟨-, -, -, m3, -⟩ := hM
  unfold dz_drawn
  split <;> grind
theorem dz_mix_b {mv st : Nat → Int32} {c : Int32} (hM : dz_M mv) (hO : dz_O mv st) (h0 : 0 ≤ c) (h1 : c < 4) : -1000 ≤ dz_mix mv st c ∧ dz_mix mv st c ≤ 1000 := by
  have hd := dz_drawn_b (st := st) hM h0 h1
  obtain ⟨-, -, -, -, m4, -⟩ := hM
  obtain ⟨-, -, o2, -, -, o5, -⟩ := hO
  have hl := dz_laid hd.1 hd.2 m4.1 m4.2
  have hq := dz_q4 o2.1 o2.2
  unfold dz_mix
  grind
theorem dz_lf_b {a : Int32} (h0 : 0 ≤ a) (h1 : a < 10) : 1 ≤ dz_lf a ∧ dz_lf a ≤ 15 := i32_lt (P := fun a => 1 ≤ dz_lf a ∧ dz_lf a ≤ 15) 10 10 rfl (by decide) h0 h1 (by decide +kernel)
theorem dz_and3 {a : Int32} (h0 : 0 ≤ a) (h1 : a < 32) : 0 ≤ a &&& (-3) ∧ a &&& (-3) < 32 := i32_lt (P := fun a => 0 ≤ a &&& (-3) ∧ a &&& (-3) < 32) 32 32 rfl (by decide) h0 h1 (by decide +kernel)
theorem dz_and9 {a : Int32} (h0 : 0 ≤ a) (h1 : a < 32) : 0 ≤ a &&& (-9) ∧ a &&& (-9) < 32 := i32_lt (P := fun a => 0 ≤ a &&& (-9) ∧ a &&& (-9) < 32) 32 32 rfl (by decide) h0 h1 (by decide +kernel)
theorem dz_cost_b {mv : Nat → Int32} {a : Int32} (hM : dz_M mv) : 0 ≤ dz_cost mv a ∧ dz_cost mv a ≤ 2 := by
  obtain ⟨-, -, -, -, m4, -⟩ := hM
  have := dz_q5 m4.1 m4.2
  unfold dz_cost
  split <;> grind
theorem dz_pay_O {mv st : Nat → Int32} {a : Int32} (hM : dz_M mv) (hO : dz_O mv st) (h0 : 0 ≤ a) (h1 : a < 10) (hc : dz_can mv st a) : dz_O mv (dz_pay mv st a) := by
  have hco := dz_cost_b (a := a) hM
  have hlf := dz_lf_b h0 h1
  obtain ⟨-, c2, c3⟩ := hc
  obtain ⟨o0, o1, o2⟩ := hO
  refine ⟨?_, ?_, o2⟩
  · show 0 ≤ st 0 - dz_cost mv a ∧ st 0 - dz_cost mv a ≤ mv 5
    grind
  · show 0 ≤ st 1 - dz_lf a ∧ st 1 - dz_lf a ≤ 99
    grind
theorem dz_sg_b (m f p t : Int32) : 0 ≤ dz_sg m f p t ∧ dz_sg m f p t ≤ 3 := by
  unfold dz_sg
  repeat' split
  all_goals decide
theorem dz_kw {x w : Int32} (h0 : 0 ≤ x) (h1 : x ≤ 99) (h2 : 0 ≤ w) (h3 : w ≤ 1000) : 0 ≤ dz_min 99 (x + w) ∧ dz_min 99 (x + w) ≤ 99 := by
  unfold dz_min
  split <;> grind
theorem dz_kv {m : Int32} (h2 : -1000 ≤ m) (h3 : m ≤ 1000) : 0 ≤ dz_max 0 (m - 9) ∧ dz_max 0 (m - 9) ≤ 1000 := by
  unfold dz_max
  split <;> grind
theorem dz_k99 {x m : Int32} (h0 : 0 ≤ x) (h1 : x ≤ 99) (h2 : -1000 ≤ m) (h3 : m ≤ 1000) : 0 ≤ dz_min 99 (x + dz_max 0 (m - 9)) ∧ dz_min 99 (x + dz_max 0 (m - 9)) ≤ 99 :=
  dz_kw h0 h1 (dz_kv h2 h3).1 (dz_kv h2 h3).2
theorem dz_k20 {x r : Int32} (h0 : 0 ≤ x) (h1 : x ≤ 20) (h2 : 0 ≤ r) (h3 : r ≤ 6) : 0 ≤ dz_min 20 (x + r) ∧ dz_min 20 (x + r) ≤ 20 := by
  unfold dz_min
  split <;> grind
theorem dz_km {x m : Int32} (h0 : 0 ≤ x) (h1 : x ≤ m) (h2 : m ≤ 30) : 0 ≤ dz_min m (x + 1) ∧ dz_min m (x + 1) ≤ m := by
  unfold dz_min
  split <;> grind
theorem dz_kx {x d N : Int32} (h0 : 0 ≤ x) (h1 : x ≤ N) (h2 : 0 ≤ d) (h3 : d ≤ 4) (h4 : N ≤ 99) : 0 ≤ dz_max 0 (x - d) ∧ dz_max 0 (x - d) ≤ N := by
  unfold dz_max
  split <;> grind
theorem z05 : (0 : Int32) ≤ 0 ∧ (0 : Int32) ≤ 5 := by decide
theorem z099 : (0 : Int32) ≤ 0 ∧ (0 : Int32) ≤ 99 := by decide
theorem z55 : (0 : Int32) ≤ 5 ∧ (5 : Int32) ≤ 5 := by decide
theorem dz_tn_O {mv st : Nat → Int32} {c : Int32} (hM : dz_M mv) (hO : dz_O mv st) (h0 : 0 ≤ c) (h1 : c < 4) : dz_O mv (dz_tn mv st c) := by
  have hd := dz_drawn_b (st := st) hM h0 h1
  have hmx := dz_mix_b hM hO h0 h1
  obtain ⟨-, -, -, -, m4, -⟩ := hM
  obtain ⟨o0, o1, o2, o3, o4, o5, o6, o7⟩ := hO
  have hl := dz_laid hd.1 hd.2 m4.1 m4.2
  have hq := dz_q4 o2.1 o2.2
  have hw : 0 ≤ dz_wall mv st c ∧ dz_wall mv st c ≤ 60 := by
    unfold dz_wall
    grind
  unfold dz_tn
  split
  · exact ⟨o0, o1, hw, o3, o4, z05, o6, Or.inr rfl⟩
  · refine ⟨o0, o1, hw, dz_k99 o3.1 o3.2 hmx.1 hmx.2, ?_, z05, o6, o7⟩
    show 0 ≤ dz_min 20 (st 4 + if dz_ts mv st c = 0 then 1 else 2) ∧ dz_min 20 (st 4 + if dz_ts mv st c = 0 then 1 else 2) ≤ 20
    split
    · exact dz_k20 o4.1 o4.2 (by decide) (by decide)
    · exact dz_k20 o4.1 o4.2 (by decide) (by decide)
theorem dz_tdn_O {mv st : Nat → Int32} {a : Int32} (hM : dz_M mv) (hO : dz_O mv st) (h0 : 4 ≤ a) (h1 : a < 10) : dz_O mv (dz_tdn mv st a) := by
  obtain ⟨-, -, -, -, -, m5, -⟩ := hM
  obtain ⟨o0, o1, o2, o3, o4, o5, o6, o7⟩ := hO
  rcases dz_six h0 h1 with rfl | rfl | rfl | rfl | rfl | rfl
  · rw [dz_td4]
    exact ⟨dz_km o0.1 o0.2 m5.2, o1, o2, dz_kx o3.1 o3.2 (by decide) (by decide) (by decide), dz_kx o4.1 o4.2 (by decide) (by decide) (by decide), o5, o6, o7⟩
  · rw [dz_td5]
    exact ⟨o0, o1, o2, z099, o4, o5, o6, o7⟩
  · rw [dz_td6]
    exact ⟨o0, o1, o2, o3, dz_k20 o4.1 o4.2 (by decide) (by decide), o5, o6, o7⟩
  · rw [dz_td7]
    exact ⟨o0, o1, o2, o3, o4, z55, o6, o7⟩
  · rw [dz_td8]
    exact ⟨o0, o1, o2, o3, o4, o5, dz_and3 o6.1 o6.2, o7⟩
  · rw [dz_td9]
    exact ⟨o0, o1, o2, o3, o4, o5, dz_and9 o6.1 o6.2, o7⟩
theorem dz_n_O {mv st : Nat → Int32} {a : Int32} (hM : dz_M mv) (hO : dz_O mv st) (h0 : 0 ≤ a) (h1 : a < 10) : dz_O mv (dz_n mv st a) := by
  unfold dz_n
  split
  · next hc =>
    have hp := dz_pay_O hM hO h0 h1 hc
    split
    · next h4 => exact dz_tdn_O hM hp h4 h1
    · next h4 => exact dz_tn_O hM hp h0 (by grind)
  · exact hO
theorem dz_s_b {mv st : Nat → Int32} {a : Int32} : 0 ≤ dz_s mv st a ∧ dz_s mv st a ≤ 6 := by
  unfold dz_s
  split
  · split
    · unfold dz_tds
      repeat' split
      all_goals decide
    · have := dz_sg_b (dz_mix mv (dz_pay mv st a) a) (dz_fat mv (dz_pay mv st a)) (dz_push mv (dz_pay mv st a)) (dz_time mv (dz_pay mv st a))
      unfold dz_ts
      grind
  · decide
theorem p_md_c168 {b : Nat} {z : Int32} {u : gg_M} {F s1 : Nat → Int32} {Q : Int32 → gg_M → Prop} (hb : b + 8 ≤ 1024) (h4 : 0 ≤ s1 4 ∧ s1 4 ≤ 20) (h0 : 0 ≤ s1 0 ∧ s1 0 ≤ u.1 49 5) (h5 : u.1 49 5 ≤ 30)
    (h : Q 0 (gg_wA u 51 (gp8 F b (upd (upd (upd s1 3 z) 4 (dz_max 0 (s1 4 - 1))) 0 (dz_min (u.1 49 5) (s1 0 + 1)))))) : w_X11_does_c168 (nI b) (nI b + 3) z (gg_wA u 51 (gp8 F b s1)) Q := by
  have i0 := gx_i0 hb
  have i3 := gx_ix 3 hb (show 3 < 8 by decide) rfl
  have i4 := gx_ix 4 hb (show 4 < 8 by decide) rfl
  have n49 : ∀ f : Nat → Int32, (gg_wA u 51 f).1 49 = u.1 49 := fun f => gg_wA_n u f (by decide)
  unfold w_X11_does_c168 w_X11_does_c205 w_X11_does_c247
  refine ⟨i3.1, ?_⟩
  rintro _ rfl
  refine ⟨i4.1, ?_⟩
  have e1 : gg_wI (gg_wA u 51 (gp8 F b s1)) 51 (nI b + 3).toNatClampNeg z = gg_wA u 51 (gp8 F b (upd s1 3 z)) := by
    simp only [gm_I, gm_AA, gg_wA_1, i3.2, gp8_upd F _ b _ (show 3 < 8 by decide)]
  rw [e1]
  have r4 : (gg_wA u 51 (gp8 F b (upd s1 3 z))).1 51 (nI b + 4).toNatClampNeg = s1 4 := by
    rw [gg_wA_1, i4.2, gp8_at _ _ _ (by decide)]
    rfl
  rw [r4]
  have main : ∀ w, w = dz_max 0 (s1 4 - 1) → vp_in (nI b + 4) 1024 ∧ ∀ u8, u8 = gg_wI (gg_wA u 51 (gp8 F b (upd s1 3 z))) 51 (nI b + 4).toNatClampNeg w → vp_in (nI b) 1024 ∧ (u8.1 49 5 ≤ u8.1 51 (nI b).toNatClampNeg → vp_in (nI b) 1024 ∧ vp_in (nI b) 1024 ∧ ∀ u6, u6 = gg_wI u8 51 (nI b).toNatClampNeg (u8.1 51 (nI b).toNatClampNeg) → Q 0 u6) ∧ (¬ u8.1 49 5 ≤ u8.1 51 (nI b).toNatClampNeg → vp_in (nI b) 1024 ∧ vp_in (nI b) 1024 ∧ ∀ u6, u6 = gg_wI u8 51 (nI b).toNatClampNeg (u8.1 51 (nI b).toNatClampNeg + 1) → Q 0 u6) := by
    rintro w rfl
    refine ⟨i4.1, ?_⟩
    rintro _ rfl
    have e2 : gg_wI (gg_wA u 51 (gp8 F b (upd s1 3 z))) 51 (nI b + 4).toNatClampNeg (dz_max 0 (s1 4 - 1)) = gg_wA u 51 (gp8 F b (upd (upd s1 3 z) 4 (dz_max 0 (s1 4 - 1)))) := by
      simp only [gm_I, gm_AA, gg_wA_1, i4.2, gp8_upd F _ b _ (show 4 < 8 by decide)]
    rw [e2, n49, i0.2]
    have r0 : (gg_wA u 51 (gp8 F b (upd (upd s1 3 z) 4 (dz_max 0 (s1 4 - 1))))).1 51 b = s1 0 := by
      rw [gg_wA_1, gp8_a0]
      rfl
    rw [r0]
    have fin : ∀ y, y = dz_min (u.1 49 5) (s1 0 + 1) → Q 0 (gg_wI (gg_wA u 51 (gp8 F b (upd (upd s1 3 z) 4 (dz_max 0 (s1 4 - 1))))) 51 b y) := by
      rintro y rfl
      simpa only [gm_I, gm_AA, gg_wA_1, gp8_u0] using h
    refine ⟨i0.1, fun c => ⟨i0.1, i0.1, ?_⟩, fun c => ⟨i0.1, i0.1, ?_⟩⟩
    · rintro _ rfl
      exact fin _ (by unfold dz_min; split <;> grind)
    · rintro _ rfl
      exact fin _ (by unfold dz_min; split <;> grind)
  refine ⟨fun c => main 0 (by unfold dz_max; split <;> grind), fun c => ⟨i4.1, main _ (by unfold dz_max; split <;> grind)⟩⟩
theorem p_mdoes {lev set a : Int32} {b : Nat} {u : gg_M} {F st : Nat → Int32} {Q : Int32 → gg_M → Prop} (hi : 256 * lev + 8 * set = nI b) (hb : b + 8 ≤ 1024) (hM : dz_M (u.1 49)) (hO : dz_O (u.1 49) st) (h0 : 0 ≤ a) (h1 : a < 10)
    (h : Q (dz_s (u.1 49) st a) (gg_wA u 51 (gp8 F b (dz_n (u.1 49) st a)))) : w_X11_does lev set a (gg_wA u 51 (gp8 F b st)) Q := by
  have i0 := gx_i0 hb
  have i1 := gx_ix 1 hb (show 1 < 8 by decide) rfl
  have i3 := gx_ix 3 hb (show 3 < 8 by decide) rfl
  have i4 := gx_ix 4 hb (show 4 < 8 by decide) rfl
  have i5 := gx_ix 5 hb (show 5 < 8 by decide) rfl
  have i6 := gx_ix 6 hb (show 6 < 8 by decide) rfl
  have i7 := gx_ix 7 hb (show 7 < 8 by decide) rfl
  have n49 : ∀ f : Nat → Int32, (gg_wA u 51 f).1 49 = u.1 49 := fun f => gg_wA_n u f (by decide)
  have m0 : (gg_wA u 51 (gp8 F b st)).1 51 b = st 0 := by rw [gg_wA_1, gp8_a0]
  have m1 : (gg_wA u 51 (gp8 F b st)).1 51 (b + 1) = st 1 := by rw [gg_wA_1, gp8_at _ _ _ (by decide)]
  have m7 : (gg_wA u 51 (gp8 F b st)).1 51 (b + 7) = st 7 := by rw [gg_wA_1, gp8_at _ _ _ (by decide)]
  have hno : ¬ dz_can (u.1 49) st a → Q 4 (gg_wA u 51 (gp8 F b st)) := fun q => by
    unfold dz_s dz_n at h
    rwa [if_neg q, if_neg q] at h
  have main : ∀ z, z = dz_cost (u.1 49) a → w_X11_does_c31 a (nI b) z (gg_wA u 51 (gp8 F b st)) Q := by
    rintro z rfl
    unfold w_X11_does_c31 w_X11_does_c75
    refine ⟨i7.1, ?_⟩
    rw [i7.2, m7]
    refine ⟨fun c1 => hno fun q => absurd (q.1.symm.trans c1) (by decide), fun c1 => ⟨i1.1, p_lightFor h0 h1 ?_⟩⟩
    rw [i1.2, m1]
    refine ⟨fun c2 => hno fun q => by have := q.2.2; grind, fun c2 => ⟨i0.1, ?_⟩⟩
    rw [i0.2, m0]
    refine ⟨fun c3 => ⟨i1.1, p_lightFor h0 h1 ⟨i1.1, ?_⟩⟩, fun c3 => hno fun q => by have := q.2.1; grind⟩
    rintro _ rfl
    have hc : dz_can (u.1 49) st a := ⟨by have := hO.2.2.2.2.2.2.2; grind, by grind, by grind⟩
    unfold dz_s dz_n at h
    rw [if_pos hc, if_pos hc] at h
    have hp := dz_pay_O hM hO h0 h1 hc
    have hu : gg_wI (gg_wA u 51 (gp8 F b st)) 51 (b + 1) (st 1 - dz_lf a) = gg_wA u 51 (gp8 F b (upd st 1 (st 1 - dz_lf a))) := by
      simp only [gm_I, gm_AA, gg_wA_1, gp8_upd F _ b _ (show 1 < 8 by decide)]
    rw [hu]
    have y0 : upd st 1 (st 1 - dz_lf a) 0 = st 0 := rfl
    have y3 : upd st 1 (st 1 - dz_lf a) 3 = st 3 := rfl
    have y4 : upd st 1 (st 1 - dz_lf a) 4 = st 4 := rfl
    have y6 : upd st 1 (st 1 - dz_lf a) 6 = st 6 := rfl
    generalize hst : upd st 1 (st 1 - dz_lf a) = s1 at y0 y3 y4 y6 ⊢
    have p0 : 4 ≤ a → ∀ k, k < 8 → dz_pay (u.1 49) st a k = s1 k := fun h4 => by
      have e0 : dz_pay (u.1 49) st a 0 = s1 0 := by
        rw [y0]
        show st 0 - dz_cost (u.1 49) a = st 0
        unfold dz_cost
        rw [if_pos h4]
        grind
      rw [← hst] at e0 ⊢
      exact lt8 e0 rfl rfl rfl rfl rfl rfl rfl
    obtain ⟨q0, q1, q2, q3, q4, q5, q6, q7⟩ := hO
    have w0 : (gg_wA u 51 (gp8 F b s1)).1 51 b = s1 0 := by rw [gg_wA_1, gp8_a0]
    have w3 : (gg_wA u 51 (gp8 F b s1)).1 51 (b + 3) = s1 3 := by rw [gg_wA_1, gp8_at _ _ _ (by decide)]
    have w4 : (gg_wA u 51 (gp8 F b s1)).1 51 (b + 4) = s1 4 := by rw [gg_wA_1, gp8_at _ _ _ (by decide)]
    have w6 : (gg_wA u 51 (gp8 F b s1)).1 51 (b + 6) = s1 6 := by rw [gg_wA_1, gp8_at _ _ _ (by decide)]
    refine ⟨fun e => ?_, fun e => ?_, fun e => ?_, fun e => ?_, fun e => ?_, fun e => ?_, fun e => ?_⟩
    · subst e
      rw [if_pos (by decide), if_pos (by decide), dz_tsn _ (by decide), dz_td4] at h
      have pp := p0 (by decide)
      have fin : ∀ z, z = dz_max 0 (s1 3 - 4) → w_X11_does_c168 (nI b) (nI b + 3) z (gg_wA u 51 (gp8 F b s1)) Q := by
        rintro z rfl
        refine p_md_c168 hb (by rw [y4]; exact q4) (by rw [y0]; exact q0) hM.2.2.2.2.2.1.2 ?_
        rw [pp 0 (by decide), pp 1 (by decide), pp 2 (by decide), pp 3 (by decide), pp 4 (by decide), pp 5 (by decide), pp 6 (by decide), pp 7 (by decide)] at h
        rwa [gp8_congr F b (lt8 (P := fun k => upd (upd (upd s1 3 (dz_max 0 (s1 3 - 4))) 4 (dz_max 0 (s1 4 - 1))) 0 (dz_min (u.1 49 5) (s1 0 + 1)) k = dz_mk (dz_pay (u.1 49) st 4) (dz_min (u.1 49 5) (s1 0 + 1)) (s1 1) (s1 2) (dz_max 0 (s1 3 - 4)) (dz_max 0 (s1 4 - 1)) (s1 5) (s1 6) (s1 7) k) rfl rfl rfl rfl rfl rfl rfl rfl)]
      refine ⟨i3.1, ?_⟩
      rw [i3.2, w3]
      rw [y3] at fin ⊢
      refine ⟨fun c => fin 0 (by unfold dz_max; split <;> grind), fun c => ⟨i3.1, fin _ (by unfold dz_max; split <;> grind)⟩⟩
    · subst e
      rw [if_pos (by decide), if_pos (by decide), dz_ts5, dz_td5] at h
      have pp := p0 (by decide)
      rw [pp 0 (by decide), pp 1 (by decide), pp 2 (by decide), pp 3 (by decide), pp 4 (by decide), pp 5 (by decide), pp 6 (by decide), pp 7 (by decide)] at h
      rw [← gp8_congr F b (lt8 (P := fun k => upd s1 3 0 k = dz_mk (dz_pay (u.1 49) st 5) (s1 0) (s1 1) (s1 2) 0 (s1 4) (s1 5) (s1 6) (s1 7) k) rfl rfl rfl rfl rfl rfl rfl rfl)] at h
      unfold w_X11_does_c268
      refine ⟨i3.1, ?_⟩
      rw [i3.2, w3]
      refine ⟨fun c => ⟨i3.1, ?_⟩, fun c => ⟨i3.1, ?_⟩⟩
      · rintro _ rfl
        rw [if_pos c] at h
        simpa only [gm_I, gm_AA, gg_wA_1, gp8_upd F _ b _ (show 3 < 8 by decide)] using h
      · rintro _ rfl
        rw [if_neg c] at h
        simpa only [gm_I, gm_AA, gg_wA_1, gp8_upd F _ b _ (show 3 < 8 by decide)] using h
    · subst e
      rw [if_pos (by decide), if_pos (by decide), dz_tsn _ (by decide), dz_td6] at h
      have pp := p0 (by decide)
      rw [pp 0 (by decide), pp 1 (by decide), pp 2 (by decide), pp 3 (by decide), pp 4 (by decide), pp 5 (by decide), pp 6 (by decide), pp 7 (by decide)] at h
      rw [← gp8_congr F b (lt8 (P := fun k => upd s1 4 (dz_min 20 (s1 4 + 6)) k = dz_mk (dz_pay (u.1 49) st 6) (s1 0) (s1 1) (s1 2) (s1 3) (dz_min 20 (s1 4 + 6)) (s1 5) (s1 6) (s1 7) k) rfl rfl rfl rfl rfl rfl rfl rfl)] at h
      have fin : ∀ z, z = dz_min 20 (s1 4 + 6) → w_X11_does_c322 (nI b + 4) z (gg_wA u 51 (gp8 F b s1)) Q := by
        rintro z rfl
        unfold w_X11_does_c322
        refine ⟨i4.1, ?_⟩
        rintro _ rfl
        simpa only [gm_I, gm_AA, gg_wA_1, i4.2, gp8_upd F _ b _ (show 4 < 8 by decide)] using h
      refine ⟨i4.1, ?_⟩
      rw [i4.2, w4]
      rw [y4] at fin ⊢
      refine ⟨fun c => ⟨i4.1, fin _ (by unfold dz_min; split <;> grind)⟩, fun c => fin _ (by unfold dz_min; split <;> grind)⟩
    · subst e
      rw [if_pos (by decide), if_pos (by decide), dz_tsn _ (by decide), dz_td7] at h
      have pp := p0 (by decide)
      rw [pp 0 (by decide), pp 1 (by decide), pp 2 (by decide), pp 3 (by decide), pp 4 (by decide), pp 6 (by decide), pp 7 (by decide)] at h
      rw [← gp8_congr F b (lt8 (P := fun k => upd s1 5 5 k = dz_mk (dz_pay (u.1 49) st 7) (s1 0) (s1 1) (s1 2) (s1 3) (s1 4) 5 (s1 6) (s1 7) k) rfl rfl rfl rfl rfl rfl rfl rfl)] at h
      refine ⟨i5.1, ?_⟩
      rintro _ rfl
      simpa only [gm_I, gm_AA, gg_wA_1, i5.2, gp8_upd F _ b _ (show 5 < 8 by decide)] using h
    · subst e
      rw [if_pos (by decide), if_pos (by decide), dz_tsn _ (by decide), dz_td8] at h
      have pp := p0 (by decide)
      rw [pp 0 (by decide), pp 1 (by decide), pp 2 (by decide), pp 3 (by decide), pp 4 (by decide), pp 5 (by decide), pp 6 (by decide), pp 7 (by decide)] at h
      rw [← gp8_congr F b (lt8 (P := fun k => upd s1 6 (s1 6 &&& (-3)) k = dz_mk (dz_pay (u.1 49) st 8) (s1 0) (s1 1) (s1 2) (s1 3) (s1 4) (s1 5) (s1 6 &&& (-3)) (s1 7) k) rfl rfl rfl rfl rfl rfl rfl rfl)] at h
      refine ⟨i6.1, i6.1, ?_⟩
      rintro _ rfl
      rw [i6.2, w6, dz_a29 (by rw [y6]; exact q6.1) (by rw [y6]; exact q6.2)]
      simpa only [gm_I, gm_AA, gg_wA_1, gp8_upd F _ b _ (show 6 < 8 by decide)] using h
    · subst e
      rw [if_pos (by decide), if_pos (by decide), dz_tsn _ (by decide), dz_td9] at h
      have pp := p0 (by decide)
      rw [pp 0 (by decide), pp 1 (by decide), pp 2 (by decide), pp 3 (by decide), pp 4 (by decide), pp 5 (by decide), pp 6 (by decide), pp 7 (by decide)] at h
      rw [← gp8_congr F b (lt8 (P := fun k => upd s1 6 (s1 6 &&& (-9)) k = dz_mk (dz_pay (u.1 49) st 9) (s1 0) (s1 1) (s1 2) (s1 3) (s1 4) (s1 5) (s1 6 &&& (-9)) (s1 7) k) rfl rfl rfl rfl rfl rfl rfl rfl)] at h
      refine ⟨i6.1, i6.1, ?_⟩
      rintro _ rfl
      rw [i6.2, w6, dz_a23 (by rw [y6]; exact q6.1) (by rw [y6]; exact q6.2)]
      simpa only [gm_I, gm_AA, gg_wA_1, gp8_upd F _ b _ (show 6 < 8 by decide)] using h
    · have h4 : ¬ 4 ≤ a := by
        intro q
        rcases dz_six q h1 with rfl | rfl | rfl | rfl | rfl | rfl <;> exact absurd e (by decide)
      rw [if_neg h4, if_neg h4] at h
      refine ⟨i0.1, i0.1, ?_⟩
      rintro _ rfl
      rw [w0]
      have e3 : gg_wI (gg_wA u 51 (gp8 F b s1)) 51 b (s1 0 - dz_cost (u.1 49) a) = gg_wA u 51 (gp8 F b (dz_pay (u.1 49) st a)) := by
        rw [gp8_congr F b (lt8 (P := fun k => dz_pay (u.1 49) st a k = upd s1 0 (s1 0 - dz_cost (u.1 49) a) k) (by rw [← hst]; rfl) (by rw [← hst]; rfl) (by rw [← hst]; rfl) (by rw [← hst]; rfl) (by rw [← hst]; rfl) (by rw [← hst]; rfl) (by rw [← hst]; rfl) (by rw [← hst]; rfl))]
        simp only [gm_I, gm_AA, gg_wA_1, gp8_u0]
      rw [e3]
      obtain ⟨-, -, -, -, -, -, p6, -⟩ := id hp
      exact p_mturns hb p6.1 p6.2 (dz_mix_b hM hp h0 (by grind)) h
  unfold w_X11_does
  rintro v58 rfl
  rw [hi]
  refine ⟨fun c => main 0 (by unfold dz_cost; rw [if_pos c]), fun c => main _ (by unfold dz_cost; rw [if_neg c, n49])⟩
