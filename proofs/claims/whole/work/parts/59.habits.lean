/-! the reference's habit -/
theorem dz_stop {mv st : Nat → Int32} (a : Int32) (h : st 7 = 1) : dz_s mv st a = 4 ∧ dz_n mv st a = st := by
  have hc : ¬ dz_can mv st a := fun z => by
    have := z.1
    rw [h] at this
    exact absurd this (by decide)
  unfold dz_s dz_n
  rw [if_neg hc, if_neg hc]
  exact ⟨rfl, rfl⟩
theorem rn_stop {mv ac : Nat → Int32} {s k : Nat} (h : rn mv ac s k 7 = 1) : ∀ j, rn mv ac s (k + j) = rn mv ac s k ∧ dnn mv ac s (k + j) = dnn mv ac s k
  | 0 => ⟨rfl, rfl⟩
  | j + 1 => by
    obtain ⟨h1, h2⟩ := rn_stop h j
    obtain ⟨h3, h4⟩ := dz_stop (mv := mv) (ac (k + j)) h
    show dz_n mv (rn mv ac s (k + j)) (ac (k + j)) = _ ∧ dnn mv ac s (k + j) + (if dz_s mv (rn mv ac s (k + j)) (ac (k + j)) = 4 then 0 else 1) = _
    rw [h1, h2, h3, h4]
    exact ⟨rfl, rfl⟩
def PRu (t j : Nat) : Bool := t == 51 || (t == 1 && j == 14)
theorem PRu_R (t j : Nat) (h : PR t j = false) : PRu t j = false := by
  simp [PR] at h
  simp [PRu]
  omega
theorem PRu_rc (t j : Nat) (q : rc t j = true) : PRu t j = false := by
  simp [rc] at q
  simp [PRu]
  omega
def HY (A u : gg_M) : Prop := ek7 (u.1 49) (xmv A) ∧ (∀ j, j < xhn A → u.1 50 j = xha A j) ∧ u.1 1 4 = nI (xhn A)
theorem HY.fr {A u v : gg_M} (h : HY A u) (hF : Fr PRu u v) : HY A v := by
  refine ⟨?_, fun j hj => ?_, ?_⟩
  · rw [hF.i 49 (fun _ => rfl)]; exact h.1
  · rw [hF.i 50 (fun _ => rfl)]; exact h.2.1 j hj
  · rw [(hF 1 4 rfl).1]; exact h.2.2
theorem runsBy_s {A u : gg_M} {s : Nat} {Q : Int32 → gg_M → Prop} (hA : WF A) (hH : HY A u) (hs : s < 32) (hQ : ∀ v, Fr PRu u v → v.1 1 14 = nI (xD A s) → Q (b2i (xR A s)) v) : w_X11_runsBy (nI s) u Q := by
  unfold w_X11_runsBy
  have hn90 := hA.hn
  have hb : (256 : Int32) * 1 + 8 * nI s = nI (256 + 8 * s) := by rw [show (256 : Int32) * 1 = nI 256 from rfl, show (8 : Int32) = nI 8 from rfl, pk_mul, nI_add]
  refine begins_s (b := 256 + 8 * s) hb (by omega) fun st hst => ?_
  rintro _ rfl
  unfold w_X11_runsBy_c13
  refine gl_up (xhn A) (fun i q => ∃ v, q = (nI i, v) ∧ Fr PRu u v ∧ v.1 1 14 = nI (dnn (xmv A) (xha A) s i) ∧ ek8 (fun k => v.1 51 (256 + 8 * s + k)) (rn (xmv A) (xha A) s i) ∧ rn (xmv A) (xha A) s i 7 = 0) 0 (by omega) ⟨_, rfl, (Fr.rf.wA (fun _ => rfl)).wI rfl, gi_eq _ _ _ _, fun k hk => ?_, rfl⟩ ?_
  · dsimp only
    rw [gi_nt _ _ _ _ (by decide), gg_wA_1, gp8_at _ _ _ hk, hst k hk, hH.1 5 (by decide), hH.1 6 (by decide)]
    exact lt8 (P := fun k => dz_mk (fun _ => 0) (xmv A 5) (xmv A 6) 0 0 0 0 (nI s) 0 k = rn (xmv A) (xha A) s 0 k) rfl rfl rfl rfl rfl rfl rfl rfl k hk
  rintro i q hi ⟨v, rfl, hF, V1, V2, V3⟩ kk hkk
  unfold b_X11_runsBy_c13 w_X11_runsBy_c49
  dsimp only
  have hH2 := hH.fr hF
  rw [hH2.2.2, nI_leI (by omega) (by omega)]
  refine ⟨fun c => ?_, fun c => ⟨vp_in_nI (by omega) (by decide), ?_⟩⟩
  · obtain rfl : i = xhn A := by omega
    have : xR A s = false := decide_eq_false (fun z => by rw [show xH A s 7 = 0 from V3] at z; exact absurd z (by decide))
    have hq := hQ v hF V1
    rw [this] at hq
    exact hq
  · have hil : i < xhn A := by omega
    obtain ⟨a0, a9⟩ := hA.ha hil
    have hO1 := hO hA hs (k := i) (by omega)
    rw [nI_clamp (by omega), hH2.2.1 i hil, nI_1]
    have hg : v = gg_wA v 51 (gp8 (v.1 51) (256 + 8 * s) (fun k => v.1 51 (256 + 8 * s + k))) := by rw [gp8_self, gm_self]
    rw [hg]
    refine p_mdoes (b := 256 + 8 * s) hb (by omega) (dz_M_mv (fun j hj => (hH2.1 j hj).symm) hA.M) (dz_O_mv hH2.1 (dz_O_congr V2.sy hO1)) a0 (by grind) ?_
    rw [(dz_mv hH2.1 _).1, (dz_mv hH2.1 _).2, (dz_congr V2 _).1]
    have ed : dnn (xmv A) (xha A) s (i + 1) = dnn (xmv A) (xha A) s i + if dz_s (xmv A) (rn (xmv A) (xha A) s i) (xha A i) = 4 then 0 else 1 := rfl
    have e7 : rn (xmv A) (xha A) s (i + 1) 7 = if dz_s (xmv A) (rn (xmv A) (xha A) s i) (xha A i) = 2 then 1 else rn (xmv A) (xha A) s i 7 := dz_n7 _ _ _
    have w14 : ∀ f : Nat → Int32, (gg_wA v 51 f).1 1 14 = nI (dnn (xmv A) (xha A) s i) := fun f => by rw [gg_wA_n _ _ (by decide)]; exact V1
    rw [w14]
    generalize hsg : dz_s (xmv A) (rn (xmv A) (xha A) s i) (xha A i) = sg at ed e7
    have fin : ∀ z : Nat, dnn (xmv A) (xha A) s (i + 1) = dnn (xmv A) (xha A) s i + z → ∀ x, x = nI z → ∀ u1 : gg_M, u1 = gg_wI (gg_wA v 51 (gp8 (v.1 51) (256 + 8 * s) (dz_n (xmv A) (fun k => v.1 51 (256 + 8 * s + k)) (xha A i)))) 1 14 (nI (dnn (xmv A) (xha A) s i) + x) → (¬ sg = 2 → kk (nI (i + 1), u1)) ∧ (sg = 2 → Q 1 u1) := by
      rintro z ez _ rfl _ rfl
      rw [nI_add]
      have hF2 : Fr PRu u (gg_wI (gg_wA v 51 (gp8 (v.1 51) (256 + 8 * s) (dz_n (xmv A) (fun k => v.1 51 (256 + 8 * s + k)) (xha A i)))) 1 14 (nI (dnn (xmv A) (xha A) s i + z))) := (hF.wA (fun _ => rfl)).wI rfl
      refine ⟨fun c2 => hkk hil _ ⟨_, rfl, hF2, ?_, fun k hk => ?_, ?_⟩, fun c2 => ?_⟩
      · rw [gi_eq, ez]
      · dsimp only
        rw [gi_nt _ _ _ _ (by decide), gg_wA_1, gp8_at _ _ _ hk]
        exact (dz_congr V2 _).2 k hk
      · rw [e7, if_neg c2]
        exact V3
      · rw [if_pos c2] at e7
        obtain ⟨r1, r2⟩ := rn_stop e7 (xhn A - (i + 1))
        rw [show i + 1 + (xhn A - (i + 1)) = xhn A by omega] at r1 r2
        have hR : xR A s = true := decide_eq_true (by show rn (xmv A) (xha A) s (xhn A) 7 = 1; rw [r1]; exact e7)
        have hq := hQ _ hF2 (by rw [gi_eq, ← ez]; unfold xD; rw [r2])
        rw [hR] at hq
        exact hq
    exact ⟨fun c2 => fin 1 (by rw [ed, if_neg c2]) 1 rfl, fun c2 => fin 0 (by rw [ed, if_pos c2]) 0 rfl⟩
/-! habit -/
def qn_habit (A : gg_M) (a b : Int32) : Int64 := if xhf A = -1 then tld (if a = 0 then xV A (-1) else xK A) 1048576 b else NO (-3)
def q_habit (A : gg_M) (a b : Int32) : Int64 := if (0 ≤ a ∧ a < 2) ∧ 0 ≤ b ∧ b < 2 then qn_habit A a b else NO (-2)
theorem c_habit {A u : gg_M} {a b : Int32} {Q : Int64 → gg_M → Prop} (hA : WF A) (h : CI A u) (hQ : ∀ v, Fr PC u v → CI A v → Q (q_habit A a b) v) : w_X10_habit a b u Q := by
  unfold w_X10_habit w_X10_habit_c16 w_X10_habit_c68
  unfold q_habit qn_habit at hQ
  refine isB_s (fun c => t1 ?_) (fun c => t0 ?_)
  · refine isB_s (fun c2 => y1 ?_) (fun c2 => y0 ?_)
    · rw [if_pos ⟨c, c2⟩] at hQ
      rw [h.1.2.2.1.1]
      refine ⟨fun c3 => tried_s hA h fun v hF hI hK => ⟨rfl, fun c4 => actsDone_s hA hI.1 hK ?_, fun c4 => weightHaving_s hA hI.1 hK ?_⟩, fun c3 => refusal_s ?_⟩
      · have hq := hQ v (hF.mono PTr_C) hI
        rw [if_pos c3, if_neg c4] at hq
        have := xK_le hA
        exact told_s (B := 1048576) (by omega) (by decide) (by decide) hq
      · have hq := hQ v (hF.mono PTr_C) hI
        rw [if_pos c3, if_pos c4] at hq
        have := xV_le hA (-1)
        exact told_s (B := 1048576) (by omega) (by decide) (by decide) hq
      · have hq := hQ u Fr.rf h
        rwa [if_neg c3] at hq
    · rw [if_neg (fun z => c2 z.2)] at hQ
      exact refusal_s (hQ u Fr.rf h)
  · rw [if_neg (fun z => c z.1)] at hQ
    exact refusal_s (hQ u Fr.rf h)
theorem rhy_s {A u : gg_M} {v : gg_M} {w : gg_M} (hF : Fr PMo v w) (h50 : ∀ j, j < xhn A → v.1 50 j = xha A j) (h4 : v.1 1 4 = nI (xhn A)) (h49 : ek7 (w.1 49) (xmv A)) (_ : Fr PHa u v) : HY A w := by
  refine ⟨h49, fun j hj => ?_, ?_⟩
  · rw [hF.i 50 (fun _ => rfl)]; exact h50 j hj
  · rw [(hF 1 4 rfl).1]; exact h4
theorem partsR_s {A u : gg_M} {s : Nat} {Q : Int64 → gg_M → Prop} (hA : WF A) (h : RI A u) (hs : s < 32) (hQ : Q (lN (wpr (A.1 52) (-1) s 5)) u) : w_X11_partsOf (nI s) u Q := by
  have e52 : u.1 52 = A.1 52 := funext fun j => h.e 52 j
  refine partsOf_s hs (by rw [e52]; exact hA.2.2.1) ?_
  rw [e52]
  exact hQ
theorem r_habitOf {A u : gg_M} {a b : Int32} {Q : Int64 → gg_M → Prop} (hA : WF A) (h : RI A u) (ha : 0 ≤ a ∧ a < 2) (hQ : ∀ v, Fr PR u v → RI A v → Q (qn_habit A a b) v) : w_X11_habitOf a b u Q := by
  unfold w_X11_habitOf
  unfold qn_habit at hQ
  refine rhabit_s hA h fun v hF hI h50 h4 => ⟨fun c => rmotor_s hA hI fun w hF2 hI2 h49 => ?_, fun c => no_s ?_⟩
  · have hy := rhy_s hF2 h50 h4 h49 hF
    unfold w_X11_habitOf_c25
    let f : Nat → Nat := fun s => if a = 1 then xD A s * wpr (A.1 52) (-1) s 5 else if xR A s then wpr (A.1 52) (-1) s 5 else 0
    have hfl : ∀ s, f s ≤ 90 * 1048576 := fun s => by
      have h1 : wpr (A.1 52) (-1) s 5 ≤ 1048576 := wpr_5 hA.2.2.1
      show (if a = 1 then xD A s * wpr (A.1 52) (-1) s 5 else if xR A s then wpr (A.1 52) (-1) s 5 else 0) ≤ _
      split
      · exact Nat.mul_le_mul (xD_le hA s) h1
      · split <;> omega
    have hfs : fb_sm f 32 = if a = 0 then xV A (-1) else xK A := by
      by_cases c0 : a = 0
      · rw [if_pos c0]
        exact fb_sm_cong fun s _ => if_neg (by rw [c0]; decide)
      · rw [if_neg c0]
        exact fb_sm_cong fun s _ => if_pos (i01 ha c0)
    refine gl_up 32 (fun m q => ∃ x, q = (lN (fb_sm f m), nI m, x) ∧ Fr PRu w x) 0 (by decide) ⟨w, rfl, Fr.rf⟩ ?_
    rintro m q hm ⟨x, rfl, hFx⟩ k hk
    unfold b_X11_habitOf_c25 w_X11_habitOf_c77
    dsimp only
    refine ⟨fun c2 => ?_, fun c2 => ?_⟩
    · have c2 : nI 32 ≤ nI m := c2
      rw [nI_leI (by decide) (by omega)] at c2
      obtain rfl : m = 32 := by omega
      have hq := hQ x (((hF.mono PHa_R).tr (hF2.mono PMo_R)).tr (hFx.mono PRu_R)) (hI2.fr hFx PRu_rc)
      rw [if_pos c, ← hfs] at hq
      have := fb_sm_bound (n := 32) (fun s _ => hfl s)
      exact lowest_s (B := 1048576) (by omega) (by decide) (by decide) hq
    · have c2 : ¬ nI 32 ≤ nI m := c2
      rw [nI_leI (by decide) (by omega)] at c2
      have hm32 : m < 32 := by omega
      refine runsBy_s hA (hy.fr hFx) hm32 fun y hFy h14 => ?_
      have hIy : RI A y := (hI2.fr hFx PRu_rc).fr hFy PRu_rc
      have fin : ∀ z : Int64, z = lN (f m) → ∀ v1 : Int64, v1 = lN (fb_sm f m) + z → k (v1, nI (m + 1), y) := by
        rintro _ rfl _ rfl
        rw [lN_add]
        exact hk hm32 _ ⟨y, rfl, hFx.tr hFy⟩
      rw [nI_1]
      refine ⟨fun c3 => ⟨fun c4 => ?_, fun c4 => ?_⟩, fun c3 => ?_⟩
      · rw [b2i_0] at c4
        refine fin 0 ?_
        show _ = lN (if a = 1 then _ else if xR A m then _ else 0)
        rw [if_neg c3, c4]
        rfl
      · rw [b2i_0] at c4
        have c4 : xR A m = true := by
          cases hh : xR A m
          · exact absurd hh c4
          · rfl
        refine partsR_s hA hIy hm32 (fin _ ?_)
        show _ = lN (if a = 1 then _ else if xR A m then _ else 0)
        rw [if_neg c3, if_pos c4]
      · refine partsR_s hA hIy hm32 (fin _ ?_)
        show _ = lN (if a = 1 then _ else if xR A m then _ else 0)
        have := xD_le hA m
        rw [if_pos c3, h14, nI_l (by omega), lN_mul, Nat.mul_comm]
  · have hq := hQ v (hF.mono PHa_R) hI
    rwa [if_neg c] at hq
theorem r_habit {A u : gg_M} {a b : Int32} {Q : Int64 → gg_M → Prop} (hA : WF A) (h : RI A u) (hQ : ∀ v, Fr PR u v → RI A v → Q (q_habit A a b) v) : w_X11_habit a b u Q := by
  unfold w_X11_habit w_X11_habit_c27 w_X11_habit_c32
  unfold q_habit at hQ
  refine in_s 2 (le1 a) (fun c => t1 ?_) (fun c => t0 ?_)
  · refine in_s 2 (le1 b) (fun c2 => t1 ?_) (fun c2 => t0 ?_)
    · rw [if_pos ⟨c, c2⟩] at hQ
      exact r_habitOf hA h c hQ
    · rw [if_neg (fun z => c2 z.2)] at hQ
      exact no_s (hQ u Fr.rf h)
  · rw [if_neg (fun z => c z.1)] at hQ
    exact no_s (hQ u Fr.rf h)
