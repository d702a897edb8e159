/-! the odds of a trouble -/
theorem dz_O_mv {mv nv st : Nat → Int32} (h : ek7 mv nv) (hO : dz_O nv st) : dz_O mv st := by
  unfold dz_O at hO ⊢
  rwa [h 5 (by decide)]
theorem gsm_c {g g2 : Nat → Bool} {w : Nat → Nat} {m : Nat} (h : ∀ s, s < m → g s = g2 s) : gsm g w m = gsm g2 w m := fb_sm_cong fun s hs => by rw [h s hs]
theorem gsm_mono {g : Nat → Bool} {w : Nat → Nat} {m : Nat} : gsm g w m ≤ fb_sm w m := fb_sm_le fun s _ => by
  split
  · exact Nat.le_refl _
  · omega
def qn_trouble (A : gg_M) (t : Nat) (b : Int32) : Int64 := if xTot A = 0 then NO (-3) else tld (gsm (fun s => s.testBit t) (xW A) 32) (xTot A) b
def q_trouble (A : gg_M) (a b : Int32) : Int64 := if (0 ≤ a ∧ a < 5) ∧ 0 ≤ b ∧ b < 2 then qn_trouble A a.toNatClampNeg b else NO (-2)
theorem weightWith_s {t : Nat} {w : Nat → Nat} {u : gg_M} {Q : Int32 → gg_M → Prop} (ht : t < 5) (hw : ∀ s, s < 32 → u.1 17 s = nI (w s)) (h : Q (nI (gsm (fun s => s.testBit t) w 32)) u) : w_X1_weightWith (nI t) u Q := by
  unfold w_X1_weightWith w_X1_weightWith_c4
  refine gl_up 32 (fun m q => q = (nI (gsm (fun s => s.testBit t) w m), nI m, u)) 0 (by decide) rfl ?_
  rintro m q hm rfl k hk
  unfold b_X1_weightWith_c4
  dsimp only
  refine ⟨fun c => ?_, fun c => ?_⟩
  · have c : nI 32 ≤ nI m := c
    rw [nI_leI (by decide) (by omega)] at c
    obtain rfl : m = 32 := by omega
    exact h
  · have c : ¬ nI 32 ≤ nI m := c
    rw [nI_leI (by decide) (by omega)] at c
    refine ⟨vp_in_nI (by omega) (by decide), ?_⟩
    rintro _ rfl
    rw [nI_1, nI_clamp (by omega), hw m (by omega), bx_u _ (by omega), bx_set (by omega) ht]
    refine hk (by omega) _ ?_
    rw [gsm_succ]
    cases m.testBit t
    · rw [if_neg (by decide), if_neg (by decide), show (0 : Int32) = nI 0 from rfl, pk_mul, nI_add, Nat.zero_mul]
    · rw [if_pos rfl, if_pos rfl, show (1 : Int32) = nI 1 from rfl, pk_mul, nI_add, Nat.one_mul]
theorem c_trouble {A u : gg_M} {a b : Int32} {Q : Int64 → gg_M → Prop} (hA : WF A) (h : CI A u) (hQ : ∀ v, Fr PC u v → CI A v → Q (q_trouble A a b) v) : w_X10_trouble a b u Q := by
  unfold w_X10_trouble w_X10_trouble_c16 w_X10_trouble_c57
  unfold q_trouble qn_trouble at hQ
  refine isB_s (fun c => t1 ?_) (fun c => t0 ?_)
  · refine isB_s (fun c2 => y1 ?_) (fun c2 => y0 ?_)
    · rw [if_pos ⟨c, c2⟩] at hQ
      refine known_s hA h fun v hF hI hK => ⟨rfl, ?_⟩
      obtain ⟨s, hs, rfl⟩ := rng 5 rfl (by decide) c
      have ht := xTot_le hA
      have hg : gsm (fun q => q.testBit s) (xW A) 32 ≤ xTot A := gsm_mono
      rw [hK.tn hA]
      rw [nI_clamp (by omega)] at hQ
      have hq := hQ v (hF.mono PLn_C) hI
      refine ⟨fun c3 => weightWith_s hs hK.2.2.1 ?_, fun c3 => refusal_s ?_⟩
      · rw [hK.tl hA, nI_l (by omega)]
        refine told_s (by omega) (by omega) (by omega) ?_
        rwa [if_neg c3] at hq
      · rwa [if_pos c3] at hq
    · rw [if_neg (fun z => c2 z.2)] at hQ
      exact refusal_s (hQ u Fr.rf h)
  · rw [if_neg (fun z => c z.1)] at hQ
    exact refusal_s (hQ u Fr.rf h)
theorem r_troubleNow {A u : gg_M} {t : Nat} {b : Int32} {Q : Int64 → gg_M → Prop} (hA : WF A) (h : RI A u) (hs : t < 5) (hQ : ∀ v, Fr PR u v → RI A v → Q (qn_trouble A t b) v) : w_X11_troubleNow (nI t) b u Q := by
  unfold w_X11_troubleNow
  refine rlays_s hA h fun v hF hI hL => ?_
  unfold w_X11_troubleNow_c9
  have ht := xTot_le hA
  have hg : gsm (fun q => q.testBit t) (xW A) 32 ≤ xTot A := gsm_mono
  refine gl_up 32 (fun m q => q = (lN (gsm (fun s => s.testBit t) (xW A) m), nI m, v)) 0 (by decide) rfl ?_
  rintro m q hm rfl k hk
  unfold b_X11_troubleNow_c9 w_X11_troubleNow_c37 w_X11_troubleNow_c71
  dsimp only
  refine ⟨fun c => ?_, fun c => p_X11_isIn ?_⟩
  · have c : nI 32 ≤ nI m := c
    rw [nI_leI (by decide) (by omega)] at c
    obtain rfl : m = 32 := by omega
    have hq := hQ v (hF.mono PLy_R) hI
    unfold qn_trouble at hq
    rw [hL.tn hA, hL.2.2.2]
    refine ⟨fun c3 => lowest_s (by omega) (by omega) (by omega) ?_, fun c3 => no_s ?_⟩
    · rwa [if_neg c3] at hq
    · rwa [if_pos c3] at hq
  · have c : ¬ nI 32 ≤ nI m := c
    rw [nI_leI (by decide) (by omega)] at c
    have e := gsm_succ (fun s => s.testBit t) (xW A) m
    have fin : ∀ z : Int64, z = lN (if m.testBit t then xW A m else 0) → ∀ v1, v1 = lN (gsm (fun s => s.testBit t) (xW A) m) + z → k (v1, nI (m + 1), v) := by
      rintro z rfl v1 rfl
      rw [lN_add]
      exact hk (by omega) _ (by rw [e])
    rw [nI_1]
    by_cases c2 : m.testBit t = true
    · rw [if_pos ((bx_s _ (by omega)).mpr (by rw [bx_set (by omega) hs]; exact c2)), nI_clamp (by omega), hL.2.2.1 m (by omega)]
      exact t1 ⟨vp_in_nI (by omega) (by decide), fin _ (by rw [if_pos c2])⟩
    · rw [if_neg (fun z => c2 (by have := (bx_s _ (by omega)).mp z; rwa [bx_set (by omega) hs] at this))]
      exact t0 (fin _ (by rw [if_neg c2]; rfl))
theorem r_trouble {A u : gg_M} {a b : Int32} {Q : Int64 → gg_M → Prop} (hA : WF A) (h : RI A u) (hQ : ∀ v, Fr PR u v → RI A v → Q (q_trouble A a b) v) : w_X11_trouble a b u Q := by
  unfold w_X11_trouble w_X11_trouble_c27 w_X11_trouble_c32
  unfold q_trouble at hQ
  refine in_s 5 (le4 a) (fun c => t1 ?_) (fun c => t0 ?_)
  · refine in_s 2 (le1 b) (fun c2 => t1 ?_) (fun c2 => t0 ?_)
    · rw [if_pos ⟨c, c2⟩] at hQ
      obtain ⟨s, hs, rfl⟩ := rng 5 rfl (by decide) c
      rw [nI_clamp (by omega)] at hQ
      exact r_troubleNow hA h hs hQ
    · rw [if_neg (fun z => c2 z.2)] at hQ
      exact no_s (hQ u Fr.rf h)
  · rw [if_neg (fun z => c z.1)] at hQ
    exact no_s (hQ u Fr.rf h)
/-! a state, a sign -/
def q_state (A : gg_M) (a b : Int32) : Int32 := if (0 ≤ a ∧ a < 32) ∧ 0 ≤ b ∧ b < 8 then xS A a.toNatClampNeg b.toNatClampNeg else -2
theorem WF.m5 {A : gg_M} (h : WF A) : xmv A 5 ≤ 30 := h.M.2.2.2.2.2.1.2
theorem c_state {A u : gg_M} {a b : Int32} {Q : Int32 → gg_M → Prop} (hA : WF A) (h : CI A u) (hQ : ∀ v, Fr PC u v → CI A v → Q (q_state A a b) v) : w_X10_state a b u Q := by
  unfold w_X10_state w_X10_state_c18
  unfold q_state at hQ
  refine isB_s (fun c => t1 ?_) (fun c => t0 ?_)
  · refine isB_s (fun c2 => y1 ?_) (fun c2 => y0 ?_)
    · rw [if_pos ⟨c, c2⟩] at hQ
      refine known_s hA h fun v hF hI hK => ⟨rfl, ?_⟩
      obtain ⟨s, hs, rfl⟩ := rng 32 rfl (by decide) c
      obtain ⟨j, hj, rfl⟩ := rng 8 rfl (by decide) c2
      refine ⟨vp_in_nI (by omega) (by decide), p_partOf ?_⟩
      rw [nI_clamp (by omega), nI_clamp (by omega)] at hQ
      rw [nI_clamp (by omega), hK.2.1 s hs, ptO_S (xS_O hA hs) hA.m5 j hj]
      exact hQ v (hF.mono PLn_C) hI
    · rw [if_neg (fun z => c2 z.2)] at hQ
      exact hQ u Fr.rf h
  · rw [if_neg (fun z => c z.1)] at hQ
    exact hQ u Fr.rf h
theorem r_stateNow {A u : gg_M} {s j : Nat} {Q : Int32 → gg_M → Prop} (hA : WF A) (h : RI A u) (hs : s < 32) (hj : j < 8) (hQ : ∀ v, Fr PR u v → RI A v → Q (xS A s j) v) : w_X11_stateNow (nI s) (nI j) u Q := by
  unfold w_X11_stateNow
  refine rlays_s hA h fun v hF hI hL => ?_
  have e : (8 : Int32) * nI s + nI j = nI (8 * s + j) := by rw [show (8 : Int32) = nI 8 from rfl, pk_mul, nI_add]
  rw [e, nI_clamp (by omega)]
  refine ⟨vp_in_nI (by omega) (by decide), ?_⟩
  rw [show v.1 51 (8 * s + j) = xS A s j from hL.2.1 s hs j hj]
  exact hQ v (hF.mono PLy_R) hI
theorem r_state {A u : gg_M} {a b : Int32} {Q : Int32 → gg_M → Prop} (hA : WF A) (h : RI A u) (hQ : ∀ v, Fr PR u v → RI A v → Q (q_state A a b) v) : w_X11_state a b u Q := by
  unfold w_X11_state w_X11_state_c26 w_X11_state_c28
  unfold q_state at hQ
  refine isSet_s (fun c => t1 ?_) (fun c => t0 ?_)
  · refine in_s 8 (le7 b) (fun c2 => t1 ?_) (fun c2 => t0 ?_)
    · rw [if_pos ⟨c, c2⟩] at hQ
      obtain ⟨s, hs, rfl⟩ := rng 32 rfl (by decide) c
      obtain ⟨j, hj, rfl⟩ := rng 8 rfl (by decide) c2
      rw [nI_clamp (by omega), nI_clamp (by omega)] at hQ
      exact r_stateNow hA h hs hj hQ
    · rw [if_neg (fun z => c2 z.2)] at hQ
      exact hQ u Fr.rf h
  · rw [if_neg (fun z => c z.1)] at hQ
    exact hQ u Fr.rf h
def q_sign (A : gg_M) (a b : Int32) : Int32 := if (0 ≤ a ∧ a < 32) ∧ 0 ≤ b ∧ b < 10 then dz_s (xmv A) (xS A a.toNatClampNeg) b else -2
/-- the scratch state of the class is nobody's -/
def P30 (t _j : Nat) : Bool := t == 30
theorem P30_C (t j : Nat) (h : PC t j = false) : P30 t j = false := by
  simp [PC] at h
  simp [P30]
  omega
theorem CI.p30 {A u v : gg_M} (h : CI A u) (hF : Fr P30 u v) : CI A v :=
  ⟨h.1.fr hF (fun t j q => by simp [kc] at q; simp [P30]; omega), h.2.1.fr hF (fun _ _ => rfl) (fun _ _ => rfl) (fun _ => rfl) (fun _ => rfl) (fun _ => rfl), h.2.2.1.fr hF (fun _ => rfl) (fun _ => rfl), h.2.2.2.fr hF rfl (fun _ => rfl)⟩
theorem c_sign {A u : gg_M} {a b : Int32} {Q : Int32 → gg_M → Prop} (hA : WF A) (h : CI A u) (hQ : ∀ v, Fr PC u v → CI A v → Q (q_sign A a b) v) : w_X10_sign a b u Q := by
  unfold w_X10_sign w_X10_sign_c18
  unfold q_sign at hQ
  refine isB_s (fun c => t1 ?_) (fun c => t0 ?_)
  · refine isB_s (fun c2 => y1 ?_) (fun c2 => y0 ?_)
    · rw [if_pos ⟨c, c2⟩] at hQ
      refine known_s hA h fun v hF hI hK => ⟨rfl, ?_⟩
      obtain ⟨s, hs, rfl⟩ := rng 32 rfl (by decide) c
      refine ⟨vp_in_nI (by omega) (by decide), ?_⟩
      rw [nI_clamp (by omega)] at hQ
      rw [nI_clamp (by omega), hK.2.1 s hs]
      refine p_unpack (xS_O hA hs) hA.m5 ?_
      refine p_does (by decide) c2.1 c2.2 ?_
      have hF2 : Fr P30 v (gg_wA (gg_wA v 30 (dz_mk (v.1 30) (xS A s 0) (xS A s 1) (xS A s 2) (xS A s 3) (xS A s 4) (xS A s 5) (xS A s 6) (xS A s 7))) 30 (dz_n ((gg_wA v 30 (dz_mk (v.1 30) (xS A s 0) (xS A s 1) (xS A s 2) (xS A s 3) (xS A s 4) (xS A s 5) (xS A s 6) (xS A s 7))).1 7) ((gg_wA v 30 (dz_mk (v.1 30) (xS A s 0) (xS A s 1) (xS A s 2) (xS A s 3) (xS A s 4) (xS A s 5) (xS A s 6) (xS A s 7))).1 30) b)) := (Fr.rf.wA (fun _ => rfl)).wA (fun _ => rfl)
      have hq := hQ _ ((hF.mono PLn_C).tr (hF2.mono P30_C)) (hI.p30 hF2)
      rw [gg_wA_n _ _ (by decide), gg_wA_1] at hq ⊢
      have e1 : ek8 (dz_mk (v.1 30) (xS A s 0) (xS A s 1) (xS A s 2) (xS A s 3) (xS A s 4) (xS A s 5) (xS A s 6) (xS A s 7)) (xS A s) := lt8 rfl rfl rfl rfl rfl rfl rfl rfl
      rw [(dz_congr e1 b).1, (dz_mv hI.1.2.1.2 b).1]
      exact hq
    · rw [if_neg (fun z => c2 z.2)] at hQ
      exact hQ u Fr.rf h
  · rw [if_neg (fun z => c z.1)] at hQ
    exact hQ u Fr.rf h
theorem r_sign {A u : gg_M} {a b : Int32} {Q : Int32 → gg_M → Prop} (hA : WF A) (h : RI A u) (hQ : ∀ v, Fr PR u v → RI A v → Q (q_sign A a b) v) : w_X11_sign a b u Q := by
  unfold w_X11_sign w_X11_sign_c17
  unfold q_sign at hQ
  refine isSet_s (fun c => t1 ?_) (fun c => t0 ?_)
  · refine in_s 10 (le9 b) (fun c2 => y1 ?_) (fun c2 => y0 ?_)
    · rw [if_pos ⟨c, c2⟩] at hQ
      obtain ⟨s, hs, rfl⟩ := rng 32 rfl (by decide) c
      rw [nI_clamp (by omega)] at hQ
      refine rlays_s hA h fun v hF hI hL => ?_
      obtain ⟨d1, d2⟩ := dz_mv (st := xS A s) hL.1 b
      have hg : v = gg_wA v 51 (gp8 (v.1 51) (8 * s) (fun k => v.1 51 (8 * s + k))) := by rw [gp8_self, gm_self]
      rw [hg]
      refine p_mdoes (b := 8 * s) ?_ (by omega) (dz_M_mv (fun j hj => (hL.1 j hj).symm) hA.M) (dz_O_mv hL.1 (dz_O_congr (hL.2.1 s hs).sy (xS_O hA hs))) c2.1 c2.2 ?_
      · rw [show (8 : Int32) = nI 8 from rfl, pk_mul, show (256 : Int32) * 0 = nI 0 from rfl, nI_add]
        congr 1
        omega
      · rw [(dz_congr (hL.2.1 s hs) b).1, d1]
        refine hQ _ ((hF.mono PLy_R).tr (Fr.rf.wA (fun _ => rfl))) (hI.fr (Fr.wA (P := fun t _ => t == 51) Fr.rf (fun _ => rfl)) (fun t j q => by simp [rc] at q; simp; omega))
    · rw [if_neg (fun z => c2 z.2)] at hQ
      exact hQ u Fr.rf h
  · rw [if_neg (fun z => c z.1)] at hQ
    exact hQ u Fr.rf h
