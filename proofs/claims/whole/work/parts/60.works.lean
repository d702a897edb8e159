/-! which sets the habit has -/
def q_has (A : gg_M) (a : Int32) : Int32 := if a = -1 then (if xhf A = -1 then nI (fb_ct (xR A) 32) else -3) else if 0 ≤ a ∧ a < 32 then (if xhf A = -1 then b2i (xR A a.toNatClampNeg) else -3) else -2
theorem c_has {A u : gg_M} {a : Int32} {Q : Int32 → gg_M → Prop} (hA : WF A) (h : CI A u) (hQ : ∀ v, Fr PC u v → CI A v → Q (q_has A a) v) : w_X10_has a u Q := by
  unfold w_X10_has w_X10_has_c17 w_X10_has_c56
  unfold q_has at hQ
  rw [h.1.2.2.1.1]
  refine ⟨fun c => ⟨fun c2 => tried_s hA h fun v hF hI hK => ⟨rfl, ?_⟩, fun c2 => ?_⟩, fun c => isB_s (fun c1 => y1 ?_) (fun c1 => y0 ?_)⟩
  · rintro _ rfl
    refine ⟨fun z => absurd c z, fun _ => bitCount_s ?_⟩
    have hq := hQ v (hF.mono PTr_C) hI
    rw [if_pos c, if_pos c2] at hq
    rw [fb_ct_cong (q := xR A) (fun s hs => hK.2.1 s hs)]
    exact hq
  · have hq := hQ u Fr.rf h
    rwa [if_pos c, if_neg c2] at hq
  · rw [h.1.2.2.1.1]
    refine ⟨fun c2 => tried_s hA h fun v hF hI hK => ⟨rfl, ?_⟩, fun c2 => ?_⟩
    · rintro _ rfl
      refine ⟨fun _ => ?_, fun z => absurd z c⟩
      have hq := hQ v (hF.mono PTr_C) hI
      rw [if_neg c, if_pos c1, if_pos c2] at hq
      obtain ⟨s, hs, rfl⟩ := rng 32 rfl (by decide) c1
      rw [nI_clamp (by omega)] at hq
      rw [bx_u _ hs, hK.2.1 s hs]
      exact hq
    · have hq := hQ u Fr.rf h
      rwa [if_neg c, if_pos c1, if_neg c2] at hq
  · have hq := hQ u Fr.rf h
    rwa [if_neg c, if_neg c1] at hq
theorem r_hasNow {A u : gg_M} {a : Int32} {Q : Int32 → gg_M → Prop} (hA : WF A) (h : RI A u) (ha : a = -1 ∨ (0 ≤ a ∧ a < 32)) (hQ : ∀ v, Fr PR u v → RI A v → Q (q_has A a) v) : w_X11_hasNow a u Q := by
  unfold w_X11_hasNow w_X11_hasNow_c34
  unfold q_has at hQ
  refine rhabit_s hA h fun v hF hI h50 h4 => ⟨fun c => rmotor_s hA hI fun w hF2 hI2 h49 => ⟨fun c2 => ?_, fun c2 => ?_⟩, fun c => ?_⟩
  · have hy := rhy_s hF2 h50 h4 h49 hF
    unfold w_X11_hasNow_c40
    refine gl_up 32 (fun m q => ∃ x, q = (nI (fb_ct (xR A) m), nI m, x) ∧ Fr PRu w x) 0 (by decide) ⟨w, rfl, Fr.rf⟩ ?_
    rintro m q hm ⟨x, rfl, hFx⟩ k hk
    unfold b_X11_hasNow_c40 w_X11_hasNow_c62
    dsimp only
    refine ⟨fun c3 => ?_, fun c3 => ?_⟩
    · have c3 : nI 32 ≤ nI m := c3
      rw [nI_leI (by decide) (by omega)] at c3
      obtain rfl : m = 32 := by omega
      have hq := hQ x (((hF.mono PHa_R).tr (hF2.mono PMo_R)).tr (hFx.mono PRu_R)) (hI2.fr hFx PRu_rc)
      rwa [if_pos c2, if_pos c] at hq
    · have c3 : ¬ nI 32 ≤ nI m := c3
      rw [nI_leI (by decide) (by omega)] at c3
      have hm32 : m < 32 := by omega
      refine runsBy_s hA (hy.fr hFx) hm32 fun y hFy _ => ?_
      rw [b2i_0, nI_1]
      refine ⟨fun c4 => ?_, fun c4 => ?_⟩
      · rintro _ rfl
        refine hk hm32 _ ⟨y, ?_, hFx.tr hFy⟩
        rw [fb_ct_succ, c4, show (0 : Int32) = nI 0 from rfl, nI_add]
        rfl
      · rintro _ rfl
        refine hk hm32 _ ⟨y, ?_, hFx.tr hFy⟩
        have c4 : xR A m = true := by
          cases hh : xR A m
          · exact absurd hh c4
          · rfl
        rw [fb_ct_succ, c4, nI_1]
        rfl
  · have hy := rhy_s hF2 h50 h4 h49 hF
    have c1 : 0 ≤ a ∧ a < 32 := by
      rcases ha with z | z
      · exact absurd z c2
      · exact z
    obtain ⟨s, hs, rfl⟩ := rng 32 rfl (by decide) c1
    refine runsBy_s hA hy hs fun y hFy _ => ?_
    have hq := hQ y (((hF.mono PHa_R).tr (hF2.mono PMo_R)).tr (hFy.mono PRu_R)) (hI2.fr hFy PRu_rc)
    rw [if_neg c2, if_pos c1, if_pos c, nI_clamp (by omega)] at hq
    rw [b2i_0]
    refine ⟨fun c4 => ?_, fun c4 => ?_⟩
    · rw [c4] at hq
      exact hq
    · have c4 : xR A s = true := by
        cases hh : xR A s
        · exact absurd hh c4
        · rfl
      rw [c4] at hq
      exact hq
  · have hq := hQ v (hF.mono PHa_R) hI
    rcases ha with z | z
    · rwa [if_pos z, if_neg c] at hq
    · by_cases c2 : a = -1
      · rwa [if_pos c2, if_neg c] at hq
      · rwa [if_neg c2, if_pos z, if_neg c] at hq
theorem r_has {A u : gg_M} {a : Int32} {Q : Int32 → gg_M → Prop} (hA : WF A) (h : RI A u) (hQ : ∀ v, Fr PR u v → RI A v → Q (q_has A a) v) : w_X11_has a u Q := by
  unfold w_X11_has w_X11_has_c12 w_X11_has_c22
  refine ⟨fun c => r_hasNow hA h (Or.inl c) hQ, fun c => isSet_s (fun c1 => t1 (r_hasNow hA h (Or.inr c1) hQ)) (fun c1 => t0 ?_)⟩
  have hq := hQ u Fr.rf h
  unfold q_has at hq
  rwa [if_neg c, if_neg c1] at hq
/-! the work that helps most -/
def xq (A : gg_M) (t : Nat) : Nat := xV A (nI t)
def qn_work (A : gg_M) (b : Int32) : Int64 := if xhf A = -1 then (if b = 2 then (nI (ams (xq A) 5)).toInt64 else tld (mxs (xq A) 5) 1048576 b) else NO (-3)
def q_work (A : gg_M) (b : Int32) : Int64 := if 0 ≤ b ∧ b < 3 then qn_work A b else NO (-2)
theorem lg_m1 {n : Nat} (h : n < 2 ^ 62) : ¬ lg_cmp (lN n) (-1) ≤ 0 := by
  unfold lg_cmp
  have e : lN n > -1 := by
    show (-1 : Int64) < lN n
    rw [Int64.lt_iff_toInt_lt, pk_lT (by omega)]
    have : (-1 : Int64).toInt = -1 := by decide
    rw [this]
    omega
  rw [if_pos e]
  decide
theorem mxq_le {A : gg_M} (hA : WF A) (k : Nat) : mxs (xq A) k ≤ 33554432 := mxs_le fun _ _ => xV_le hA _
theorem c_work {A u : gg_M} {b : Int32} {Q : Int64 → gg_M → Prop} (hA : WF A) (h : CI A u) (hQ : ∀ v, Fr PC u v → CI A v → Q (q_work A b) v) : w_X10_work b u Q := by
  unfold w_X10_work
  unfold q_work qn_work at hQ
  refine isB_s (fun c => y1 ?_) (fun c => y0 ?_)
  · rw [if_pos c] at hQ
    rw [h.1.2.2.1.1]
    refine ⟨fun c3 => tried_s hA h fun v hF hI hK => ⟨rfl, ?_⟩, fun c3 => refusal_s ?_⟩
    · have hq := hQ v (hF.mono PTr_C) hI
      rw [if_pos c3] at hq
      unfold w_X10_work_c46
      refine gl_up 5 (fun t q => ∃ M, q = (nI (ams (xq A) t), M, nI t, v) ∧ (t = 0 → M = -1) ∧ (0 < t → M = lN (mxs (xq A) t))) 0 (by decide) ⟨-1, rfl, fun _ => rfl, fun z => absurd z (by omega)⟩ ?_
      rintro t q ht ⟨M, rfl, hM0, hM1⟩ k hk
      unfold b_X10_work_c46 w_X10_work_c79 w_X10_work_c104
      dsimp only
      refine ⟨fun c4 => ?_, fun c4 => ?_⟩
      · have c4 : nI 5 ≤ nI t := c4
        rw [nI_leI (by decide) (by omega)] at c4
        obtain rfl : t = 5 := by omega
        rw [hM1 (by decide)]
        refine ⟨fun c5 => ?_, fun c5 => ?_⟩
        · rw [if_neg c5] at hq
          have := mxq_le hA 5
          exact told_s (B := 1048576) (by omega) (by decide) (by decide) hq
        · rwa [if_pos c5] at hq
      · have c4 : ¬ nI 5 ≤ nI t := c4
        rw [nI_leI (by decide) (by omega)] at c4
        refine weightHaving_s hA hI.1 hK ?_
        have l1 := xV_le hA (nI t)
        have l2 := mxq_le hA t
        have es : mxs (xq A) (t + 1) = if mxs (xq A) t < xq A t then xq A t else mxs (xq A) t := rfl
        have ea : ams (xq A) (t + 1) = if mxs (xq A) t < xq A t then t else ams (xq A) t := rfl
        have ex : xq A t = xV A (nI t) := rfl
        rw [nI_1]
        rcases Nat.eq_zero_or_pos t with e | e
        · rw [hM0 e]
          refine ⟨fun z => absurd z (lg_m1 (by omega)), fun _ => hk (by omega) _ ⟨lN (xV A (nI t)), ?_, fun z => absurd z (by omega), fun _ => ?_⟩⟩
          · subst e
            have z2 : ams (xq A) 0 = 0 := rfl
            rw [ea, z2]
            split <;> rfl
          · subst e
            have z1 : mxs (xq A) 0 = 0 := rfl
            rw [es, z1]
            split
            · rfl
            · rw [show xV A (nI 0) = 0 by omega]
        · rw [hM1 e, lg_le (by omega) (by omega)]
          refine ⟨fun z => hk (by omega) _ ⟨lN (mxs (xq A) t), ?_, fun z => absurd z (by omega), fun _ => ?_⟩, fun z => hk (by omega) _ ⟨lN (xV A (nI t)), ?_, fun z => absurd z (by omega), fun _ => ?_⟩⟩
          · rw [ea, if_neg (by omega)]
          · rw [es, if_neg (by omega)]
          · rw [ea, if_pos (by omega)]
          · rw [es, if_pos (by omega), ex]
    · have hq := hQ u Fr.rf h
      rwa [if_neg c3] at hq
  · rw [if_neg c] at hQ
    exact refusal_s (hQ u Fr.rf h)
theorem wpr_wo {hd : Nat → Int32} {t : Nat} (ht : t < 5) (s : Nat) : ∀ k, k ≤ 5 → wpr (upd hd t 0) (-1) s k = wpr hd (nI t) s k
  | 0, _ => rfl
  | k + 1, hk => by
    show wpr (upd hd t 0) (-1) s k * wfac (upd hd t 0) (-1) s k = wpr hd (nI t) s k * wfac hd (nI t) s k
    rw [wpr_wo ht s k (by omega)]
    have hm : ¬ nI k = (-1 : Int32) := fun z => by
      have : (0 : Int32) ≤ nI k := nI_pos' (by omega)
      rw [z] at this
      exact absurd this (by decide)
    congr 1
    unfold wfac
    rw [if_neg hm]
    by_cases e : k = t
    · subst e
      rw [upd_self, if_pos rfl]
      rfl
    · rw [upd_ne _ _ e, if_neg (fun z => e ((nI_eq (by omega) (by omega)).mp z))]
theorem okA_0 {hd : Nat → Int32} (h : okA hd) (t : Nat) : okA (upd hd t 0) := fun j hj => by
  by_cases e : j = t
  · subst e
    rw [upd_self]
    decide
  · rw [upd_ne _ _ e]
    exact h j hj
def PWk (t j : Nat) : Bool := PRu t j || t == 52
theorem HY.fk {A u v : gg_M} (h : HY A u) (hF : Fr PWk u v) : HY A v := by
  refine ⟨?_, fun j hj => ?_, ?_⟩
  · rw [hF.i 49 (fun _ => rfl)]; exact h.1
  · rw [hF.i 50 (fun _ => rfl)]; exact h.2.1 j hj
  · rw [(hF 1 4 rfl).1]; exact h.2.2
theorem PRu_k (t j : Nat) (h : PWk t j = false) : PRu t j = false := by
  simp [PWk] at h
  exact h.1
theorem r_workNow {A u : gg_M} {b : Int32} {Q : Int64 → gg_M → Prop} (hA : WF A) (h : RI A u) (hQ : ∀ v, Fr PR u v → RI A v → Q (qn_work A b) v) : w_X11_workNow b u Q := by
  unfold w_X11_workNow
  unfold qn_work at hQ
  refine rhabit_s hA h fun v hF hI h50 h4 => ⟨fun c => rmotor_s hA hI fun w hF2 hI2 h49 => ?_, fun c => no_s ?_⟩
  · have hy := rhy_s hF2 h50 h4 h49 hF
    have e52 : w.1 52 = A.1 52 := funext fun j => hI2.e 52 j
    unfold w_X11_workNow_c27
    refine gl_up 5 (fun t q => ∃ X x, q = (X, lN (mxs (xq A) t), nI t, x) ∧ Fr PWk w x ∧ x.1 52 = A.1 52 ∧ (t = 0 → X = -1) ∧ (0 < t → X = nI (ams (xq A) t))) 0 (by decide) ⟨-1, w, rfl, Fr.rf, e52, fun _ => rfl, fun z => absurd z (by omega)⟩ ?_
    rintro t q ht ⟨X, x, rfl, hFx, x52, hX0, hX1⟩ k hk
    unfold b_X11_workNow_c27 w_X11_workNow_c164
    dsimp only
    refine ⟨fun c4 => ?_, fun c4 => ⟨?_, ?_⟩⟩
    · have c4 : nI 5 ≤ nI t := c4
      rw [nI_leI (by decide) (by omega)] at c4
      obtain rfl : t = 5 := by omega
      have hIx : RI A x := fun a j q => by
        by_cases e : a = 52
        · subst e
          rw [x52]
        · rw [(hFx a j (by simp [rc] at q; simp [PWk, PRu]; omega)).1]
          exact hI2 a j q
      have hq := hQ x (((hF.mono PHa_R).tr (hF2.mono PMo_R)).tr (hFx.mono (fun a j q => by simp [PR] at q; simp [PWk, PRu]; omega))) hIx
      rw [if_pos c] at hq
      rw [hX1 (by decide)]
      refine ⟨fun c5 => ?_, fun c5 => ?_⟩
      · rw [if_neg c5] at hq
        have := mxq_le hA 5
        exact lowest_s (B := 1048576) (by omega) (by decide) (by decide) hq
      · rwa [if_pos c5] at hq
    · have c4 : ¬ nI 5 ≤ nI t := c4
      rw [nI_leI (by decide) (by omega)] at c4
      exact vp_in_nI (by omega) (by decide)
    · have c4 : ¬ nI 5 ≤ nI t := c4
      rw [nI_leI (by decide) (by omega)] at c4
      rintro _ rfl
      refine ⟨vp_in_nI (by omega) (by decide), ?_⟩
      rintro _ rfl
      rw [nI_clamp (by omega)]
      unfold w_X11_workNow_c56
      refine gl_up 32 (fun m q => ∃ y, q = (lN (gsm (xR A) (fun s => wpr (A.1 52) (nI t) s 5) m), nI m, y) ∧ Fr PWk w y ∧ y.1 52 = upd (A.1 52) t 0) 0 (by decide) ⟨_, rfl, hFx.wI (by simp [PWk]), by rw [gm_I, gg_wA_1, x52]⟩ ?_
      rintro m q hm ⟨y, rfl, hFy, y52⟩ kk hkk
      unfold b_X11_workNow_c56 w_X11_workNow_c84 w_X11_workNow_c115 w_X11_workNow_c121 w_X11_workNow_c137
      dsimp only
      refine ⟨fun c5 => ⟨vp_in_nI (by omega) (by decide), ?_⟩, fun c5 => ?_⟩
      · have c5 : nI 32 ≤ nI m := c5
        rw [nI_leI (by decide) (by omega)] at c5
        obtain rfl : m = 32 := by omega
        rintro _ rfl
        have hF3 : Fr PWk w (gg_wI y 52 (nI t).toNatClampNeg (x.1 52 t)) := hFy.wI (by simp [PWk])
        have z52 : (gg_wI y 52 (nI t).toNatClampNeg (x.1 52 t)).1 52 = A.1 52 := by
          rw [gm_I, gg_wA_1, y52, nI_clamp (by omega), x52, upd_upd]
          funext j
          by_cases e : j = t
          · subst e
            rw [upd_self]
          · rw [upd_ne _ _ e]
        generalize gg_wI y 52 (nI t).toNatClampNeg (x.1 52 t) = z at hF3 z52
        have l1 := xV_le hA (nI t)
        have l2 := mxq_le hA t
        have es : mxs (xq A) (t + 1) = if mxs (xq A) t < xq A t then xq A t else mxs (xq A) t := rfl
        have ea : ams (xq A) (t + 1) = if mxs (xq A) t < xq A t then t else ams (xq A) t := rfl
        have ex : xq A t = xV A (nI t) := rfl
        rw [show gsm (xR A) (fun s => wpr (A.1 52) (nI t) s 5) 32 = xV A (nI t) from rfl, lg_le (by omega) (by omega), nI_1]
        rcases Nat.eq_zero_or_pos t with e | e
        · rw [hX0 e]
          subst e
          have z1 : mxs (xq A) 0 = 0 := rfl
          have z2 : ams (xq A) 0 = 0 := rfl
          refine ⟨fun _ => ⟨fun q => hk (by omega) _ ⟨nI 0, z, ?_, hF3, z52, fun z => absurd z (by omega), fun _ => ?_⟩, fun q => hk (by omega) _ ⟨nI 0, z, ?_, hF3, z52, fun z => absurd z (by omega), fun _ => ?_⟩⟩, fun q => absurd rfl q⟩
          · rw [es, if_neg (by omega)]
          · rw [ea, if_neg (by omega), z2]
          · rw [es, if_pos (by omega), ex]
          · rw [ea, if_pos (by omega)]
        · rw [hX1 e]
          have nm : ¬ nI (ams (xq A) t) = -1 := fun q => by
            have := ams_le (xq A) t
            have h0 : (0 : Int32) ≤ nI (ams (xq A) t) := nI_pos' (by omega)
            rw [q] at h0
            exact absurd h0 (by decide)
          refine ⟨fun q => absurd q nm, fun _ => ⟨fun q => ⟨fun _ => hk (by omega) _ ⟨nI (ams (xq A) t), z, ?_, hF3, z52, fun z => absurd z (by omega), fun _ => ?_⟩, fun q2 => absurd q q2⟩, fun q => ⟨fun q2 => absurd q2 q, fun _ => hk (by omega) _ ⟨nI t, z, ?_, hF3, z52, fun z => absurd z (by omega), fun _ => ?_⟩⟩⟩⟩
          · rw [es, if_neg (by omega)]
          · rw [ea, if_neg (by omega)]
          · rw [es, if_pos (by omega), ex]
          · rw [ea, if_pos (by omega)]
      · have c5 : ¬ nI 32 ≤ nI m := c5
        rw [nI_leI (by decide) (by omega)] at c5
        have hm32 : m < 32 := by omega
        refine runsBy_s hA (hy.fk hFy) hm32 fun z hFz _ => ?_
        have hF3 : Fr PWk w z := hFy.tr (hFz.mono PRu_k)
        have z52 : z.1 52 = upd (A.1 52) t 0 := by rw [hFz.i 52 (fun _ => rfl)]; exact y52
        have es := gsm_succ (xR A) (fun s => wpr (A.1 52) (nI t) s 5) m
        rw [b2i_0, nI_1 m]
        refine ⟨fun c6 => ?_, fun c6 => partsOf_s hm32 (by rw [z52]; exact okA_0 hA.2.2.1 t) ?_⟩
        · rintro _ rfl
          refine hkk hm32 _ ⟨z, ?_, hF3, z52⟩
          rw [es, c6, show (0 : Int64) = lN 0 from rfl, lN_add]
          rfl
        · have c6 : xR A m = true := by
            cases hh : xR A m
            · exact absurd hh c6
            · rfl
          rintro _ rfl
          refine hkk hm32 _ ⟨z, ?_, hF3, z52⟩
          rw [es, c6, z52, wpr_wo (by omega) m 5 (by decide), lN_add]
          rfl
  · have hq := hQ v (hF.mono PHa_R) hI
    rwa [if_neg c] at hq
theorem r_work {A u : gg_M} {b : Int32} {Q : Int64 → gg_M → Prop} (hA : WF A) (h : RI A u) (hQ : ∀ v, Fr PR u v → RI A v → Q (q_work A b) v) : w_X11_work b u Q := by
  unfold w_X11_work w_X11_work_c22
  unfold q_work at hQ
  refine in_s 3 (le2 b) (fun c => t1 ?_) (fun c => t0 ?_)
  · rw [if_pos c] at hQ
    exact r_workNow hA h hQ
  · rw [if_neg c] at hQ
    exact no_s (hQ u Fr.rf h)
