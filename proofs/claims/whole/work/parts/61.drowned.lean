/-! how many turns drown it -/
def drn (mv : Nat → Int32) (c : Int32) (s : Nat) : Nat → Nat → Int32
  | 0, _ => -1
  | f + 1, k => if dz_s mv (rn mv (fun _ => c) s k) c = 2 ∨ dz_s mv (rn mv (fun _ => c) s k) c = 4 then -1 else if rn mv (fun _ => c) s (k + 1) 3 < 6 then drn mv c s f (k + 1) else nI (k + 1)
theorem dz_lf1 {c : Int32} (h0 : 0 ≤ c) (h1 : c < 4) : dz_lf c = 1 := i32_lt (P := fun c => dz_lf c = 1) 4 4 rfl (by decide) h0 h1 (by decide +kernel)
theorem dz_light {mv st : Nat → Int32} {c : Int32} {l : Nat} (h0 : 0 ≤ c) (h1 : c < 4) (hl : st 1 = nI l) (hb : l < 200) (h4 : ¬ dz_s mv st c = 4) : 0 < l ∧ dz_n mv st c 1 = nI (l - 1) := by
  have hc : dz_can mv st c := by
    refine Classical.byContradiction fun z => h4 ?_
    unfold dz_s
    rw [if_neg z]
  have h3 := hc.2.2
  have e1 := dz_lf1 h0 h1
  rw [e1, hl, show (1 : Int32) = nI 1 from rfl, nI_leI (by decide) (by omega)] at h3
  refine ⟨by omega, ?_⟩
  have hn : ¬ 4 ≤ c := by grind
  unfold dz_n
  rw [if_pos hc, if_neg hn]
  have e2 : dz_tn mv (dz_pay mv st c) c 1 = dz_pay mv st c 1 := by
    unfold dz_tn
    split <;> rfl
  rw [e2]
  show st 1 - dz_lf c = _
  rw [e1, hl, nI_m1 (by omega)]
theorem drn_more {mv : Nat → Int32} {c : Int32} {s : Nat} (h0 : 0 ≤ c) (h1 : c < 4) (j : Nat) : ∀ f k l, rn mv (fun _ => c) s k 1 = nI l → l < 200 → l < f → drn mv c s f k = drn mv c s (f + j) k
  | 0, _, _, _, _, h => absurd h (by omega)
  | f + 1, k, l, hl, hb, hf => by
    rw [show f + 1 + j = (f + j) + 1 by omega]
    show (if _ then _ else _) = (if _ then _ else _)
    by_cases q : dz_s mv (rn mv (fun _ => c) s k) c = 2 ∨ dz_s mv (rn mv (fun _ => c) s k) c = 4
    · rw [if_pos q, if_pos q]
    · rw [if_neg q, if_neg q]
      obtain ⟨l1, l2⟩ := dz_light h0 h1 hl hb (fun z => q (Or.inr z))
      have ih := drn_more (s := s) h0 h1 j f (k + 1) (l - 1) l2 (by omega) (by omega)
      by_cases q2 : rn mv (fun _ => c) s (k + 1) 3 < 6
      · rw [if_pos q2, if_pos q2]
        exact ih
      · rw [if_neg q2, if_neg q2]
def q_drowned (A : gg_M) (a b : Int32) : Int32 := if (0 ≤ a ∧ a < 32) ∧ 0 ≤ b ∧ b < 4 then drn (xmv A) b a.toNatClampNeg 100 0 else -2
theorem drn_199 {A : gg_M} (hA : WF A) {c : Int32} {s : Nat} (h0 : 0 ≤ c) (h1 : c < 4) : drn (xmv A) c s 100 0 = drn (xmv A) c s 199 0 := by
  obtain ⟨l, hl, e⟩ := rng (a := xmv A 6) (b := 100) 100 rfl (by decide) ⟨hA.M.2.2.2.2.2.2.1, by have := hA.M.2.2.2.2.2.2.2; grind⟩
  exact drn_more h0 h1 99 100 0 l e (by omega) hl
theorem rnc_O {A : gg_M} (hA : WF A) {c : Int32} {s k : Nat} (hs : s < 32) (h0 : 0 ≤ c) (h1 : c < 4) : dz_O (xmv A) (rn (xmv A) (fun _ => c) s k) := rn_O hA.M hs k (fun _ _ => ⟨h0, by grind⟩)
theorem c_drowned {A u : gg_M} {a b : Int32} {Q : Int32 → gg_M → Prop} (h : CI A u) (hQ : ∀ v, Fr PC u v → CI A v → Q (q_drowned A a b) v) : w_X10_drowned a b u Q := by
  unfold w_X10_drowned w_X10_drowned_c17
  unfold q_drowned at hQ
  refine isB_s (fun c => t1 ?_) (fun c => t0 ?_)
  · refine isB_s (fun c2 => y1 ?_) (fun c2 => y0 ?_)
    · rw [if_pos ⟨c, c2⟩] at hQ
      obtain ⟨s, hs, rfl⟩ := rng 32 rfl (by decide) c
      rw [nI_clamp (by omega)] at hQ
      unfold w_X7_turnsToDrown
      refine p_begin (by decide) ?_
      unfold w_X7_turnsToDrown_c9
      refine gl_up 100 (fun k q => ∃ v, q = (nI (k + 1), v) ∧ Fr P30 u v ∧ ek8 (v.1 30) (rn (xmv A) (fun _ => b) s k) ∧ drn (xmv A) b s 100 0 = drn (xmv A) b s (100 - k) k) 0 (by decide) ⟨_, rfl, Fr.rf.wA (fun _ => rfl), ?_, rfl⟩ ?_
      · rw [gg_wA_1]
        exact lt8 (h.1.2.1.2 5 (by decide)) (h.1.2.1.2 6 (by decide)) rfl rfl rfl rfl rfl rfl
      rintro k q hk ⟨v, rfl, hF, hst, hd⟩ kk hkk
      unfold b_X7_turnsToDrown_c9 w_X7_turnsToDrown_c36
      dsimp only
      refine ⟨fun c3 => ?_, fun c3 => ?_⟩
      · have c3 : nI 100 < nI (k + 1) := c3
        rw [nI_ltI (by decide) (by omega)] at c3
        obtain rfl : k = 100 := by omega
        have hq := hQ v (hF.mono P30_C) (h.p30 hF)
        rw [hd] at hq
        exact hq
      · have c3 : ¬ nI 100 < nI (k + 1) := c3
        rw [nI_ltI (by decide) (by omega)] at c3
        refine p_does (by decide) c2.1 (by have := c2.2; grind) ?_
        have v7 : ek7 (v.1 7) (xmv A) := by rw [hF.i 7 (fun _ => rfl)]; exact h.1.2.1.2
        obtain ⟨g1, g2⟩ := dz_congr (mv := xmv A) hst b
        rw [(dz_mv v7 b).1, (dz_mv v7 b).2, g1]
        have hF2 : Fr P30 u (gg_wA v 30 (dz_n (xmv A) (v.1 30) b)) := hF.wA (fun _ => rfl)
        rw [gg_wA_1, g2 3 (by decide)]
        have hq := hQ _ (hF2.mono P30_C) (h.p30 hF2)
        rw [hd, show 100 - k = (99 - k) + 1 by omega] at hq
        have hq : Q (if dz_s (xmv A) (rn (xmv A) (fun _ => b) s k) b = 2 ∨ dz_s (xmv A) (rn (xmv A) (fun _ => b) s k) b = 4 then -1 else if rn (xmv A) (fun _ => b) s (k + 1) 3 < 6 then drn (xmv A) b s (99 - k) (k + 1) else nI (k + 1)) (gg_wA v 30 (dz_n (xmv A) (v.1 30) b)) := hq
        refine ⟨fun c4 => ?_, fun c4 => ⟨fun c5 => ⟨fun c6 => ?_, fun c6 => ?_⟩, fun c5 => ?_⟩⟩
        · rwa [if_pos (Or.inl c4)] at hq
        · rw [nI_1]
          refine hkk (by omega) _ ⟨_, rfl, hF2, ?_, ?_⟩
          · rw [gg_wA_1]
            exact g2
          · rw [hd, show 100 - k = (99 - k) + 1 by omega, show 100 - (k + 1) = 99 - k by omega]
            show (if _ then _ else _) = _
            rw [if_neg (fun z => by rcases z with z | z; exact c4 z; exact c5 z), if_pos (show rn (xmv A) (fun _ => b) s (k + 1) 3 < 6 from c6)]
        · rwa [if_neg (fun z => by rcases z with z | z; exact c4 z; exact c5 z), if_neg (show ¬ rn (xmv A) (fun _ => b) s (k + 1) 3 < 6 from c6)] at hq
        · rwa [if_pos (Or.inr c5)] at hq
    · rw [if_neg (fun z => c2 z.2)] at hQ
      exact hQ u Fr.rf h
  · rw [if_neg (fun z => c z.1)] at hQ
    exact hQ u Fr.rf h
theorem r_drownedNow {A u : gg_M} {s : Nat} {b : Int32} {Q : Int32 → gg_M → Prop} (hA : WF A) (h : RI A u) (hs : s < 32) (c2 : 0 ≤ b ∧ b < 4) (hQ : ∀ v, Fr PR u v → RI A v → Q (drn (xmv A) b s 100 0) v) : w_X11_drownedNow (nI s) b u Q := by
  unfold w_X11_drownedNow
  rw [drn_199 hA c2.1 c2.2] at hQ
  refine rmotor_s hA h fun w hF1 hI1 h49 => ?_
  have hb : (256 : Int32) * 1 + 8 * nI s = nI (256 + 8 * s) := by rw [show (256 : Int32) * 1 = nI 256 from rfl, show (8 : Int32) = nI 8 from rfl, pk_mul, nI_add]
  refine begins_s (b := 256 + 8 * s) hb (by omega) fun st hst => ?_
  unfold w_X11_drownedNow_c14
  refine gl_up 199 (fun k q => ∃ v, q = (nI (k + 1), v) ∧ Fr PRu w v ∧ ek8 (fun i => v.1 51 (256 + 8 * s + i)) (rn (xmv A) (fun _ => b) s k) ∧ drn (xmv A) b s 199 0 = drn (xmv A) b s (199 - k) k) 0 (by decide) ⟨_, rfl, Fr.rf.wA (fun _ => rfl), fun i hi => ?_, rfl⟩ ?_
  · dsimp only
    rw [gg_wA_1, gp8_at _ _ _ hi, hst i hi, h49 5 (by decide), h49 6 (by decide)]
    exact lt8 (P := fun k => dz_mk (fun _ => 0) (xmv A 5) (xmv A 6) 0 0 0 0 (nI s) 0 k = rn (xmv A) (fun _ => b) s 0 k) rfl rfl rfl rfl rfl rfl rfl rfl i hi
  rintro k q hk ⟨v, rfl, hF, V2, hd⟩ kk hkk
  unfold b_X11_drownedNow_c14 w_X11_drownedNow_c43
  dsimp only
  refine ⟨fun c3 => ?_, fun c3 => ?_⟩
  · have c3 : nI 200 ≤ nI (k + 1) := c3
    rw [nI_leI (by decide) (by omega)] at c3
    obtain rfl : k = 199 := by omega
    have hq := hQ v ((hF1.mono PMo_R).tr (hF.mono PRu_R)) (hI1.fr hF PRu_rc)
    rw [hd] at hq
    exact hq
  · have c3 : ¬ nI 200 ≤ nI (k + 1) := c3
    rw [nI_leI (by decide) (by omega)] at c3
    have v49 : ek7 (v.1 49) (xmv A) := by rw [hF.i 49 (fun _ => rfl)]; exact h49
    have hO1 := rnc_O hA (k := k) hs c2.1 c2.2
    have hg : v = gg_wA v 51 (gp8 (v.1 51) (256 + 8 * s) (fun k => v.1 51 (256 + 8 * s + k))) := by rw [gp8_self, gm_self]
    rw [hg]
    refine p_mdoes (b := 256 + 8 * s) hb (by omega) (dz_M_mv (fun j hj => (v49 j hj).symm) hA.M) (dz_O_mv v49 (dz_O_congr V2.sy hO1)) c2.1 (by have := c2.2; grind) ?_
    obtain ⟨g1, g2⟩ := dz_congr (mv := xmv A) V2 b
    rw [(dz_mv v49 _).1, (dz_mv v49 _).2, g1]
    have hF2 : Fr PRu w (gg_wA v 51 (gp8 (v.1 51) (256 + 8 * s) (dz_n (xmv A) (fun i => v.1 51 (256 + 8 * s + i)) b))) := hF.wA (fun _ => rfl)
    have e3 : (256 : Int32) + 8 * nI s + 3 = nI (256 + 8 * s + 3) := by rw [show (256 : Int32) = nI 256 from rfl, show (8 : Int32) = nI 8 from rfl, pk_mul, nI_add, show (3 : Int32) = nI 3 from rfl, nI_add]
    rw [e3, nI_clamp (n := 256 + 8 * s + 3) (by omega), gg_wA_1, gp8_at _ _ _ (show 3 < 8 by decide), g2 3 (by decide)]
    have hq := hQ _ ((hF1.mono PMo_R).tr (hF2.mono PRu_R)) (hI1.fr hF2 PRu_rc)
    rw [hd, show 199 - k = (198 - k) + 1 by omega] at hq
    have hq : Q (if dz_s (xmv A) (rn (xmv A) (fun _ => b) s k) b = 2 ∨ dz_s (xmv A) (rn (xmv A) (fun _ => b) s k) b = 4 then -1 else if rn (xmv A) (fun _ => b) s (k + 1) 3 < 6 then drn (xmv A) b s (198 - k) (k + 1) else nI (k + 1)) _ := hq
    refine ⟨fun c4 => ?_, fun c4 => ⟨fun c5 => ⟨vp_in_nI (by omega) (by decide), fun c6 => ?_, fun c6 => ?_⟩, fun c5 => ?_⟩⟩
    · rwa [if_pos (Or.inr c4)] at hq
    · rw [nI_1]
      refine hkk (by omega) _ ⟨_, rfl, hF2, fun i hi => ?_, ?_⟩
      · dsimp only
        rw [gg_wA_1, gp8_at _ _ _ hi]
        exact g2 i hi
      · rw [hd, show 199 - k = (198 - k) + 1 by omega, show 199 - (k + 1) = 198 - k by omega]
        show (if _ then _ else _) = _
        rw [if_neg (fun z => by rcases z with z | z; exact c5 z; exact c4 z), if_pos (show rn (xmv A) (fun _ => b) s (k + 1) 3 < 6 from c6)]
    · rwa [if_neg (fun z => by rcases z with z | z; exact c5 z; exact c4 z), if_neg (show ¬ rn (xmv A) (fun _ => b) s (k + 1) 3 < 6 from c6)] at hq
    · rwa [if_pos (Or.inl c5)] at hq
theorem r_drowned {A u : gg_M} {a b : Int32} {Q : Int32 → gg_M → Prop} (hA : WF A) (h : RI A u) (hQ : ∀ v, Fr PR u v → RI A v → Q (q_drowned A a b) v) : w_X11_drowned a b u Q := by
  unfold w_X11_drowned w_X11_drowned_c25 w_X11_drowned_c27
  unfold q_drowned at hQ
  refine isSet_s (fun c => t1 ?_) (fun c => t0 ?_)
  · refine in_s 4 (le3 b) (fun c2 => t1 ?_) (fun c2 => t0 ?_)
    · rw [if_pos ⟨c, c2⟩] at hQ
      obtain ⟨s, hs, rfl⟩ := rng 32 rfl (by decide) c
      rw [nI_clamp (by omega)] at hQ
      exact r_drownedNow hA h hs c2 hQ
    · rw [if_neg (fun z => c2 z.2)] at hQ
      exact hQ u Fr.rf h
  · rw [if_neg (fun z => c z.1)] at hQ
    exact hQ u Fr.rf h
