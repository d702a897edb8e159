/-! counts -/
def asm (A : gg_M) : Nat → Nat := fb_sm (fun j => (A.1 52 j).toNatClampNeg)
theorem asm_st {A : gg_M} (hA : WF A) {k : Nat} (hk : k < 5) : nI (asm A k) + A.1 52 k = nI (asm A (k + 1)) := by
  obtain ⟨x, hx, e⟩ := okA_n hA.2.2.1 hk
  show _ = nI (asm A k + (A.1 52 k).toNatClampNeg)
  rw [e, nI_clamp (by omega), nI_add]
theorem tsm_st {A : gg_M} (hA : WF A) {k : Nat} (hk : k < xNM A) : nI (tsm A k) + A.1 59 k = nI (tsm A (k + 1)) := by
  obtain ⟨-, -, h0, h1⟩ := hA.2.2.2.2.1.2.2 k hk
  obtain ⟨t, ht, e⟩ := rng (a := A.1 59 k) (b := 31) 31 rfl (by decide) ⟨h0, by grind⟩
  show _ = nI (tsm A k + (A.1 59 k).toNatClampNeg)
  rw [e, nI_clamp (by omega), nI_add]
theorem together_s {A u : gg_M} {Q : Int32 → gg_M → Prop} (hA : WF A) (h : CC A u) (hQ : Q (nI (asm A 5)) u) : w_X0_together u Q := by
  unfold w_X0_together w_X0_together_c4
  refine gl_up 5 (fun m q => q = (nI (asm A m), nI m, u)) 0 (by decide) rfl ?_
  rintro m q hm rfl k hk
  unfold b_X0_together_c4
  dsimp only
  refine ⟨fun c => ?_, fun c => ?_⟩
  · have c : nI 5 ≤ nI m := c
    rw [nI_leI (by decide) (by omega)] at c
    obtain rfl : m = 5 := by omega
    exact hQ
  · have c : ¬ nI 5 ≤ nI m := c
    rw [nI_leI (by decide) (by omega)] at c
    refine ⟨vp_in_nI (by omega) (by decide), ?_⟩
    rintro _ rfl
    rw [nI_1, nI_clamp (by omega), h.2.2.2.1 m (by omega), asm_st hA (by omega)]
    exact hk (by omega) _ rfl
theorem sum5_s {A u : gg_M} {Q : Int32 → gg_M → Prop} (hA : WF A) (h : RI A u) (hQ : Q (nI (asm A 5)) u) : w_X11_sumOf 5 u Q := by
  unfold w_X11_sumOf w_X11_sumOf_c4
  refine gl_up 5 (fun m q => q = (nI (asm A m), nI m, u)) 0 (by decide) rfl ?_
  rintro m q hm rfl k hk
  unfold b_X11_sumOf_c4 w_X11_sumOf_c29
  dsimp only
  refine ⟨fun c => ?_, fun c => ⟨fun z => absurd rfl z, fun _ => ?_⟩⟩
  · have c : nI 5 ≤ nI m := c
    rw [nI_leI (by decide) (by omega)] at c
    obtain rfl : m = 5 := by omega
    unfold w_X11_sumOf_c31
    refine gl_up 0 (fun m q => q = (nI (asm A 5), nI 0, u)) 0 (by decide) rfl ?_
    rintro m q hm rfl k hk
    unfold b_X11_sumOf_c31 w_X11_sumOf_c60
    dsimp only
    exact ⟨fun _ => hQ, fun _ => ⟨fun _ => hQ, fun z => absurd z (by decide)⟩⟩
  · have c : ¬ nI 5 ≤ nI m := c
    rw [nI_leI (by decide) (by omega)] at c
    refine ⟨vp_in_nI (by omega) (by decide), ?_⟩
    rintro _ rfl
    rw [nI_1, nI_clamp (by omega), h.e 52 m, asm_st hA (by omega)]
    exact hk (by omega) _ rfl
theorem sum7_s {A u : gg_M} {Q : Int32 → gg_M → Prop} (hA : WF A) (h : RI A u) (hQ : Q (nI (tsm A (xNM A))) u) : w_X11_sumOf 7 u Q := by
  unfold w_X11_sumOf w_X11_sumOf_c4
  have hn : u.1 1 15 = nI (xNM A) := (h.e 1 15).trans hA.2.2.2.2.1.1
  have hl := hA.2.2.2.2.1.2.1
  have go : w_X11_sumOf_c29 7 0 u Q := by
    unfold w_X11_sumOf_c29 w_X11_sumOf_c31
    refine gl_up (xNM A) (fun m q => q = (nI (tsm A m), nI m, u)) 0 (by omega) rfl ?_
    rintro m q hm rfl k hk
    unfold b_X11_sumOf_c31 w_X11_sumOf_c60
    dsimp only
    rw [hn, nI_leI (by omega) (by omega)]
    refine ⟨fun c => ?_, fun c => ⟨fun z => absurd rfl z, fun _ => ⟨vp_in_nI (by omega) (by decide), ?_⟩⟩⟩
    · obtain rfl : m = xNM A := by omega
      exact hQ
    · rintro _ rfl
      rw [nI_1, nI_clamp (by omega), h.e 59 m, tsm_st hA (by omega)]
      exact hk (by omega) _ rfl
  refine gl_up 0 (fun m q => q = (0, 0, u)) 0 (by decide) rfl ?_
  rintro m q hm rfl k hk
  unfold b_X11_sumOf_c4
  dsimp only
  exact ⟨fun _ => go, fun _ => ⟨fun _ => go, fun z => absurd z (by decide)⟩⟩
theorem xhn_f {A : gg_M} (h : ¬ xhf A = -1) : xhn A = 0 := if_neg h
theorem actsOf_s {A u : gg_M} {Q : Int32 → gg_M → Prop} (hA : WF A) (h : RI A u) (hQ : ∀ v, Fr PR u v → RI A v → Q (nI (xhn A)) v) : w_X11_actsOfHabit u Q := by
  unfold w_X11_actsOfHabit w_X11_actsOfHabit_c16
  refine rhabit_s hA h fun v hF hI _ h4 => ⟨fun c => ?_, fun c => ?_⟩
  · have hq := hQ v (hF.mono PHa_R) hI
    rw [xhn_f c] at hq
    exact hq
  · rw [h4]
    exact hQ v (hF.mono PHa_R) hI
def q_count (A : gg_M) (a : Int32) : Int32 := if a = 0 then A.1 48 0 else if a = 1 then A.1 48 1 else if a = 2 then A.1 1 8 else if a = 3 then q_left A else if a = 4 then A.1 1 15 else if a = 5 then nI (asm A 5) else if a = 6 then nI (xhn A) else if a = 7 then nI (tsm A (xNM A)) else if a = 8 then A.1 1 24 else -2
theorem big {a : Int32} (h : a.toInt < 0 ∨ 8 < a.toInt) : a ≠ 0 ∧ a ≠ 1 ∧ a ≠ 2 ∧ a ≠ 3 ∧ a ≠ 4 ∧ a ≠ 5 ∧ a ≠ 6 ∧ a ≠ 7 ∧ a ≠ 8 := by
  refine ⟨?_, ?_, ?_, ?_, ?_, ?_, ?_, ?_, ?_⟩ <;> (rintro rfl; exact absurd h (by decide))
theorem c_count {A u : gg_M} {a : Int32} {Q : Int32 → gg_M → Prop} (hA : WF A) (h : CI A u) (hQ : ∀ v, Fr PC u v → CI A v → Q (q_count A a) v) : w_X10_count a u Q := by
  unfold w_X10_count
  have hq := hQ u Fr.rf h
  refine ⟨?_, ?_, ?_, ?_, ?_, ?_, ?_, ?_, ?_, ?_⟩
  · rintro rfl
    rw [h.1.1.1.1]
    exact hq
  · rintro rfl
    rw [h.1.1.2.1]
    exact hq
  · rintro rfl
    rw [h.1.2.2.2.2.1.1]
    exact hq
  · rintro rfl
    exact c_left hA h hQ
  · rintro rfl
    rw [h.1.2.2.2.2.2.1.1]
    exact hq
  · rintro rfl
    exact together_s hA h.1 hq
  · rintro rfl
    rw [h.1.2.2.1.2.1]
    exact hq
  · rintro rfl
    unfold w_X3_turnsTogether
    refine offBy_s hA h.1 ?_
    rw [xof0 hA]
    exact hq
  · rintro rfl
    rw [h.1.2.2.2.2.2.2.2]
    exact hq
  · intro z
    obtain ⟨z0, z1, z2, z3, z4, z5, z6, z7, z8⟩ := big z
    unfold q_count at hq
    rwa [if_neg z0, if_neg z1, if_neg z2, if_neg z3, if_neg z4, if_neg z5, if_neg z6, if_neg z7, if_neg z8] at hq
theorem r_count {A u : gg_M} {a : Int32} {Q : Int32 → gg_M → Prop} (hA : WF A) (h : RI A u) (hQ : ∀ v, Fr PR u v → RI A v → Q (q_count A a) v) : w_X11_count a u Q := by
  unfold w_X11_count
  have hq := hQ u Fr.rf h
  refine ⟨?_, ?_, ?_, ?_, ?_, ?_, ?_, ?_, ?_, ?_⟩
  · rintro rfl
    refine ⟨vp_in_nI (n := 0) (by decide) (by decide), ?_⟩
    rw [show (0 : Int32).toNatClampNeg = 0 by decide, h.e 48 0]
    exact hq
  · rintro rfl
    refine ⟨vp_in_nI (n := 1) (by decide) (by decide), ?_⟩
    rw [show (1 : Int32).toNatClampNeg = 1 by decide, h.e 48 1]
    exact hq
  · rintro rfl
    rw [h.e 1 8]
    exact hq
  · rintro rfl
    exact r_left hA h hQ
  · rintro rfl
    rw [h.e 1 15]
    exact hq
  · rintro rfl
    exact sum5_s hA h hq
  · rintro rfl
    exact actsOf_s hA h hQ
  · rintro rfl
    exact sum7_s hA h hq
  · rintro rfl
    rw [h.e 1 24]
    exact hq
  · intro z
    obtain ⟨z0, z1, z2, z3, z4, z5, z6, z7, z8⟩ := big z
    unfold q_count at hq
    rwa [if_neg z0, if_neg z1, if_neg z2, if_neg z3, if_neg z4, if_neg z5, if_neg z6, if_neg z7, if_neg z8] at hq
