/-! mornings -/
theorem isDay_s {a b : Int32} {u : gg_M} {Q : Int32 → gg_M → Prop} (h1 : (0 ≤ a ∧ a < 41) ∧ 0 ≤ b ∧ b < 10 → Q 1 u) (h0 : ¬ ((0 ≤ a ∧ a < 41) ∧ 0 ≤ b ∧ b < 10) → Q 0 u) : w_X10_isDay a b u Q := by
  unfold w_X10_isDay w_X10_isDay_c22 w_X10_isDay_c23
  exact isB_s (fun c => t1 (isB_s (fun c2 => t1 ⟨Or.inr rfl, h1 ⟨c, c2⟩⟩) (fun c2 => t0 ⟨Or.inl rfl, h0 (fun z => c2 z.2)⟩))) (fun c => t0 ⟨Or.inl rfl, h0 (fun z => c z.1)⟩)
theorem isLaw_s {a b c : Int32} {u : gg_M} {Q : Int32 → gg_M → Prop} (h1 : (0 ≤ a ∧ a < 10) ∧ (0 ≤ b ∧ b < 10) ∧ 0 ≤ c ∧ c < 4 → Q 1 u) (h0 : ¬ ((0 ≤ a ∧ a < 10) ∧ (0 ≤ b ∧ b < 10) ∧ 0 ≤ c ∧ c < 4) → Q 0 u) : w_X10_isLaw a b c u Q := by
  unfold w_X10_isLaw w_X10_isLaw_c30 w_X10_isLaw_c31
  exact isB_s (fun c => t1 (isB_s (fun c2 => t1 (isB_s (fun c3 => t1 ⟨Or.inr rfl, h1 ⟨c, c2, c3⟩⟩) (fun c3 => t0 ⟨Or.inl rfl, h0 (fun z => c3 z.2.2)⟩))) (fun c2 => t0 ⟨Or.inl rfl, h0 (fun z => c2 z.2.1)⟩))) (fun c => t0 ⟨Or.inl rfl, h0 (fun z => c z.1)⟩)
theorem misLaw_s {a b c : Int32} {u : gg_M} {Q : Int32 → gg_M → Prop} (h1 : (0 ≤ a ∧ a < 10) ∧ (0 ≤ b ∧ b < 10) ∧ 0 ≤ c ∧ c < 4 → Q 1 u) (h0 : ¬ ((0 ≤ a ∧ a < 10) ∧ (0 ≤ b ∧ b < 10) ∧ 0 ≤ c ∧ c < 4) → Q 0 u) : w_X11_isLaw a b c u Q := by
  unfold w_X11_isLaw w_X11_isLaw_c33 w_X11_isLaw_c34
  exact in_s 10 (le9 a) (fun c => t1 (in_s 10 (le9 b) (fun c2 => t1 (in_s 4 (le3 _) (fun c3 => t1 ⟨Or.inr rfl, h1 ⟨c, c2, c3⟩⟩) (fun c3 => t0 ⟨Or.inl rfl, h0 (fun z => c3 z.2.2)⟩))) (fun c2 => t0 ⟨Or.inl rfl, h0 (fun z => c2 z.2.1)⟩))) (fun c => t0 ⟨Or.inl rfl, h0 (fun z => c z.1)⟩)
def okD (a b c : Int32) : Prop := ((0 ≤ a ∧ a < 41) ∧ 0 ≤ b ∧ b < 10) ∧ 0 ≤ c ∧ c < 31
def mo (A : gg_M) (a b c : Int32) : gg_M := gg_wI (gg_wI (gg_wI (gg_wI A 57 (xNM A) a) 58 (xNM A) b) 59 (xNM A) c) 1 15 (nI (xNM A + 1))
def n_morning (A : gg_M) (a b c : Int32) : gg_M := if ((0 ≤ a ∧ a < 41) ∧ 0 ≤ b ∧ b < 10) ∧ 0 ≤ c ∧ c < 31 then (if xNM A = 16 then A else mo A a b c) else A
def m_morning (A : gg_M) (a b c : Int32) : Int32 := if ((0 ≤ a ∧ a < 41) ∧ 0 ≤ b ∧ b < 10) ∧ 0 ≤ c ∧ c < 31 then (if xNM A = 16 then -4 else nI (xNM A + 1)) else -2
theorem mo_N {A : gg_M} {a b c : Int32} (h : xNM A < 16) : xNM (mo A a b c) = xNM A + 1 := by
  show (nI (xNM A + 1)).toNatClampNeg = _
  exact nI_clamp (by omega)
theorem w_morning {A : gg_M} {a b c : Int32} (hA : WF A) : WF (n_morning A a b c) := by
  unfold n_morning
  split
  · rename_i q
    split
    · exact hA
    · obtain ⟨w0, w1, w2, w3, w4, w5⟩ := hA
      have hl := w4.2.1
      have e := mo_N (A := A) (a := a) (b := b) (c := c) (by omega)
      refine ⟨w0, w1, w2, w3, ⟨by rw [e]; exact gi_eq _ _ _ _, by omega, fun j hj => ?_⟩, w5⟩
      rw [e] at hj
      show (0 ≤ upd (A.1 57) (xNM A) a j ∧ upd (A.1 57) (xNM A) a j ≤ 40) ∧ (0 ≤ upd (A.1 58) (xNM A) b j ∧ upd (A.1 58) (xNM A) b j ≤ 9) ∧ 0 ≤ upd (A.1 59) (xNM A) c j ∧ upd (A.1 59) (xNM A) c j ≤ 30
      by_cases ej : j = xNM A
      · subst ej
        rw [upd_self, upd_self, upd_self]
        exact ⟨⟨q.1.1.1, by have := q.1.1.2; grind⟩, ⟨q.1.2.1, by have := q.1.2.2; grind⟩, q.2.1, by have := q.2.2; grind⟩
      · rw [upd_ne _ _ ej, upd_ne _ _ ej, upd_ne _ _ ej]
        exact w4.2.2 j (by omega)
  · exact hA
theorem CC.nm {A u : gg_M} (h : CC A u) (hA : WF A) : u.1 33 5 = nI (xNM A) := h.2.2.2.2.2.1.1.trans hA.2.2.2.2.1.1
theorem c_morning {A u : gg_M} {a b c : Int32} {Q : Int32 → gg_M → Prop} (hA : WF A) (h : CI A u) (hQ : ∀ v, Fr PC u v → CI (n_morning A a b c) v → Q (m_morning A a b c) v) : w_X10_morning a b c u Q := by
  unfold w_X10_morning w_X10_morning_c17 w_X10_morning_c45
  unfold n_morning m_morning at hQ
  refine isDay_s (fun q => t1 ?_) (fun q => t0 ?_)
  · refine isB_s (fun q2 => y1 ?_) (fun q2 => y0 ?_)
    · simp only [if_pos (And.intro q q2)] at hQ
      unfold w_X3_takes
      have hn := h.1.nm hA
      have hl := hA.2.2.2.2.1.2.1
      rw [hn]
      refine isB_s (fun c4 => y1 ?_) (fun c4 => y0 ?_)
      · have c4 : nI (xNM A) < nI 16 := c4.2
        rw [nI_ltI (by omega) (by decide)] at c4
        simp only [if_neg (show ¬ xNM A = 16 by omega)] at hQ
        rw [hn]
        refine ⟨vp_in_nI c4 (by decide), ?_⟩
        rw [nI_clamp (by omega)]
        rintro _ rfl
        rw [gi_nt _ _ _ _ (by decide), hn]
        refine ⟨vp_in_nI c4 (by decide), ?_⟩
        rw [nI_clamp (by omega)]
        rintro _ rfl
        rw [gi_nt _ _ _ _ (by decide), gi_nt _ _ _ _ (by decide), hn]
        refine ⟨vp_in_nI c4 (by decide), ?_⟩
        rw [nI_clamp (by omega)]
        rintro _ rfl _ rfl
        rw [gi_nt _ _ _ _ (by decide), gi_nt _ _ _ _ (by decide), gi_nt _ _ _ _ (by decide), hn, nI_1]
        rintro _ rfl
        refine t1 ?_
        rw [gi_ne _ _ _ _ (by decide), gi_eq]
        refine hQ _ (((((Fr.rf.wI rfl).wI rfl).wI rfl).wI rfl).wI rfl) ?_
        obtain ⟨⟨ct, cm, cp, ca, cs, cn, ch, cf⟩, kb, kt, kl⟩ := h
        refine ⟨⟨ct.tr rfl (fun _ _ => rfl) rfl rfl rfl rfl rfl rfl, cm.tr rfl (fun _ _ => rfl) rfl rfl, cp.tr rfl rfl rfl rfl, ca.tr rfl rfl, cs.tr rfl rfl rfl rfl rfl rfl, ⟨rfl, fun j hj => ?_⟩, ch.tr rfl rfl rfl rfl (h4c rfl rfl rfl rfl) (h4c rfl rfl rfl rfl), cf.tr rfl rfl⟩, kb.tr rfl rfl rfl rfl rfl rfl rfl rfl rfl rfl, kt.tr rfl rfl rfl rfl rfl, Or.inl rfl⟩
        rw [mo_N c4] at hj
        show upd (u.1 34) (xNM A) a j = upd (A.1 57) (xNM A) a j ∧ upd (u.1 35) (xNM A) b j = upd (A.1 58) (xNM A) b j ∧ upd (u.1 36) (xNM A) c j = upd (A.1 59) (xNM A) c j
        by_cases ej : j = xNM A
        · subst ej
          rw [upd_self, upd_self, upd_self, upd_self, upd_self, upd_self]
          exact ⟨rfl, rfl, rfl⟩
        · rw [upd_ne _ _ ej, upd_ne _ _ ej, upd_ne _ _ ej, upd_ne _ _ ej, upd_ne _ _ ej, upd_ne _ _ ej]
          exact cn.2 j (by omega)
      · have c4 : ¬ nI (xNM A) < nI 16 := fun z => c4 ⟨nI_pos' (by omega), z⟩
        rw [nI_ltI (by omega) (by decide)] at c4
        simp only [if_pos (show xNM A = 16 by omega)] at hQ
        exact t0 (hQ u Fr.rf h)
    · simp only [if_neg (fun z : ((0 ≤ a ∧ a < 41) ∧ 0 ≤ b ∧ b < 10) ∧ 0 ≤ c ∧ c < 31 => q2 z.2)] at hQ
      exact hQ u Fr.rf h
  · simp only [if_neg (fun z : ((0 ≤ a ∧ a < 41) ∧ 0 ≤ b ∧ b < 10) ∧ 0 ≤ c ∧ c < 31 => q z.1)] at hQ
    exact hQ u Fr.rf h
theorem r_morning {A u : gg_M} {a b c : Int32} {Q : Int32 → gg_M → Prop} (hA : WF A) (h : RI A u) (hQ : ∀ v, Fr PR u v → RI (n_morning A a b c) v → Q (m_morning A a b c) v) : w_X11_morning a b c u Q := by
  unfold w_X11_morning w_X11_morning_c30
  unfold n_morning m_morning at hQ
  have bad : ¬ (((0 ≤ a ∧ a < 41) ∧ 0 ≤ b ∧ b < 10) ∧ 0 ≤ c ∧ c < 31) → Q (-2) u := fun z => by
    simp only [if_neg z] at hQ
    exact hQ u Fr.rf h
  refine in_s 41 (by grind) (fun q => t1 ?_) (fun q => t0 (bad (fun z => q z.1.1)))
  refine in_s 10 (le9 b) (fun q2 => t1 ?_) (fun q2 => t0 (bad (fun z => q2 z.1.2)))
  refine in_s 31 (by grind) (fun q3 => y1 ?_) (fun q3 => y0 (bad (fun z => q3 z.2)))
  simp only [if_pos (And.intro (And.intro q q2) q3)] at hQ
  have hn : u.1 1 15 = nI (xNM A) := (h.e 1 15).trans hA.2.2.2.2.1.1
  have hl := hA.2.2.2.2.1.2.1
  rw [hn]
  refine ⟨fun c4 => ?_, fun c4 => ?_⟩
  · have c4 : ¬ nI (xNM A) = nI 16 := c4
    rw [nI_eq (by omega) (by decide)] at c4
    simp only [if_neg c4] at hQ
    refine ⟨vp_in_nI (by omega) (by decide), ?_⟩
    rw [nI_clamp (by omega)]
    rintro _ rfl
    rw [gi_nt _ _ _ _ (by decide), hn]
    refine ⟨vp_in_nI (by omega) (by decide), ?_⟩
    rw [nI_clamp (by omega)]
    rintro _ rfl
    rw [gi_nt _ _ _ _ (by decide), gi_nt _ _ _ _ (by decide), hn]
    refine ⟨vp_in_nI (by omega) (by decide), ?_⟩
    rw [nI_clamp (by omega)]
    rintro _ rfl _ rfl
    rw [gi_eq, gi_nt _ _ _ _ (by decide), gi_nt _ _ _ _ (by decide), gi_nt _ _ _ _ (by decide), hn, nI_1]
    exact hQ _ ((((Fr.rf.wI rfl).wI rfl).wI rfl).wI rfl) ((((h.wI 57 _ a).wI 58 _ b).wI 59 _ c).wI 1 15 _)
  · have c4 : nI (xNM A) = nI 16 := c4
    rw [nI_eq (by omega) (by decide)] at c4
    simp only [if_pos c4] at hQ
    exact hQ u Fr.rf h
/-! what a law says -/
def q_says (a b c d e : Int32) : Int32 := if ((0 ≤ a ∧ a < 10) ∧ (0 ≤ b ∧ b < 10) ∧ 0 ≤ c ∧ c < 4) ∧ (0 ≤ d ∧ d < 41) ∧ 0 ≤ e ∧ e < 10 then lsy a b c d e else -2
theorem c_says {a b c d e : Int32} {u : gg_M} {Q : Int32 → gg_M → Prop} (hQ : Q (q_says a b c d e) u) : w_X10_says a b c d e u Q := by
  unfold w_X10_says w_X10_says_c32 w_X10_says_c34
  unfold q_says at hQ
  refine isLaw_s (fun q => t1 (isDay_s (fun q2 => t1 ?_) (fun q2 => t0 ?_))) (fun q => t0 ?_)
  · rwa [if_pos ⟨q, q2⟩] at hQ
  · rwa [if_neg (fun z => q2 z.2)] at hQ
  · rwa [if_neg (fun z => q z.1)] at hQ
theorem r_says {a b c d e : Int32} {u : gg_M} {Q : Int32 → gg_M → Prop} (hQ : Q (q_says a b c d e) u) : w_X11_says a b c d e u Q := by
  unfold w_X11_says w_X11_says_c44 w_X11_says_c46
  unfold q_says at hQ
  refine misLaw_s (fun q => t1 (in_s 41 (by grind) (fun q2 => t1 (in_s 10 (le9 e) (fun q3 => t1 ?_) (fun q3 => t0 ?_))) (fun q2 => t0 ?_))) (fun q => t0 ?_)
  · rwa [if_pos ⟨q, q2, q3⟩] at hQ
  · rwa [if_neg (fun z => q3 z.2.2)] at hQ
  · rwa [if_neg (fun z => q2 z.2.1)] at hQ
  · rwa [if_neg (fun z => q z.1)] at hQ
theorem abs_s {x : Int32} {u : gg_M} {Q : Int32 → gg_M → Prop} (h : Q (iab x) u) : w_J9_abs_0f7a4 x u Q := by
  unfold w_J9_abs_0f7a4 w_J9_abs_0f7a4_c10
  unfold iab at h
  refine ⟨fun c => ?_, fun c => ?_⟩
  · rwa [if_pos c] at h
  · rwa [if_neg c] at h
theorem amount_s {x : Int32} {u : gg_M} {Q : Int32 → gg_M → Prop} (h : Q (iab x) u) : w_X11_amount x u Q := by
  unfold w_X11_amount w_X11_amount_c10
  unfold iab at h
  refine ⟨fun c => ?_, fun c => ?_⟩
  · rwa [if_pos c] at h
  · rwa [if_neg c] at h
theorem offBy_s {A u : gg_M} {a b c : Int32} {Q : Int32 → gg_M → Prop} (hA : WF A) (h : CC A u) (hQ : Q (xof A a b c) u) : w_X3_offBy a b c u Q := by
  unfold w_X3_offBy w_X3_offBy_c6
  have hn := h.nm hA
  have hl := hA.2.2.2.2.1.2.1
  refine gl_up (xNM A) (fun m q => q = (lof A a b c m, nI m, u)) 0 (by omega) rfl ?_
  rintro m q hm rfl k hk
  unfold b_X3_offBy_c6 w_X3_offBy_c64
  dsimp only
  rw [hn, nI_leI (by omega) (by omega)]
  refine ⟨fun q => ?_, fun q => ⟨fun q2 => ?_, fun q2 => ?_⟩⟩
  · obtain rfl : m = xNM A := by omega
    exact hQ
  · have q2 : nI 16 ≤ nI m := q2
    rw [nI_leI (by decide) (by omega)] at q2
    omega
  · refine ⟨vp_in_nI (by omega) (by decide), vp_in_nI (by omega) (by decide), ?_⟩
    obtain ⟨e1, e2, e3⟩ := h.2.2.2.2.2.1.2 m (by omega)
    unfold w_X3_lawSays
    dsimp only
    rw [nI_clamp (by omega), e1, e2, e3]
    refine ⟨vp_in_nI (by omega) (by decide), abs_s ?_⟩
    rintro _ rfl
    rw [nI_1]
    exact hk (by omega) _ rfl
theorem missesOf_s {A u : gg_M} {a b c : Int32} {Q : Int32 → gg_M → Prop} (hA : WF A) (h : RI A u) (hQ : Q (xof A a b c) u) : w_X11_missesOf a b c u Q := by
  unfold w_X11_missesOf w_X11_missesOf_c6
  have hn : u.1 1 15 = nI (xNM A) := (h.e 1 15).trans hA.2.2.2.2.1.1
  have hl := hA.2.2.2.2.1.2.1
  refine gl_up (xNM A) (fun m q => q = (lof A a b c m, nI m, u)) 0 (by omega) rfl ?_
  rintro m q hm rfl k hk
  unfold b_X11_missesOf_c6
  dsimp only
  rw [hn, nI_leI (by omega) (by omega)]
  refine ⟨fun q => ?_, fun q => ?_⟩
  · obtain rfl : m = xNM A := by omega
    exact hQ
  · refine ⟨vp_in_nI (by omega) (by decide), vp_in_nI (by omega) (by decide), ?_⟩
    unfold w_X11_saysOf
    dsimp only
    rw [nI_clamp (by omega), h.e 57 m, h.e 58 m, h.e 59 m]
    refine ⟨vp_in_nI (by omega) (by decide), amount_s ?_⟩
    rintro _ rfl
    rw [nI_1]
    exact hk (by omega) _ rfl
def q_misses (A : gg_M) (a b c : Int32) : Int32 := if (0 ≤ a ∧ a < 10) ∧ (0 ≤ b ∧ b < 10) ∧ 0 ≤ c ∧ c < 4 then xof A a b c else -2
theorem c_misses {A u : gg_M} {a b c : Int32} {Q : Int32 → gg_M → Prop} (hA : WF A) (h : CI A u) (hQ : Q (q_misses A a b c) u) : w_X10_misses a b c u Q := by
  unfold w_X10_misses w_X10_misses_c24
  unfold q_misses at hQ
  refine isLaw_s (fun q => t1 (offBy_s hA h.1 ?_)) (fun q => t0 ?_)
  · rwa [if_pos q] at hQ
  · rwa [if_neg q] at hQ
theorem r_misses {A u : gg_M} {a b c : Int32} {Q : Int32 → gg_M → Prop} (hA : WF A) (h : RI A u) (hQ : Q (q_misses A a b c) u) : w_X11_misses a b c u Q := by
  unfold w_X11_misses w_X11_misses_c21
  unfold q_misses at hQ
  refine misLaw_s (fun q => t1 (missesOf_s hA h ?_)) (fun q => t0 ?_)
  · rwa [if_pos q] at hQ
  · rwa [if_neg q] at hQ
/-! all turns -/
def tsm (A : gg_M) : Nat → Nat := fb_sm (fun j => (A.1 59 j).toNatClampNeg)
theorem iab0 {t x y : Int32} (h0 : 0 ≤ t) (h1 : t ≤ 30) : iab (lsy 0 0 0 x y - t) = t := by
  have e : lsy 0 0 0 x y = 0 := by
    unfold lsy
    rw [Int32.zero_mul, Int32.zero_mul]
    decide
  rw [e]
  exact i32_lt (P := fun t => iab (0 - t) = t) 31 31 rfl (by decide) h0 (by grind) (by decide +kernel)
theorem lof0 {A : gg_M} (hA : WF A) : ∀ k, k ≤ xNM A → lof A 0 0 0 k = nI (tsm A k)
  | 0, _ => rfl
  | k + 1, h => by
    obtain ⟨-, -, h0, h1⟩ := hA.2.2.2.2.1.2.2 k (by omega)
    show lof A 0 0 0 k + iab _ = _
    rw [lof0 hA k (by omega), iab0 h0 h1]
    obtain ⟨t, ht, e⟩ := rng (a := A.1 59 k) (b := 31) 31 rfl (by decide) ⟨h0, by grind⟩
    show nI (tsm A k) + A.1 59 k = nI (tsm A k + (A.1 59 k).toNatClampNeg)
    rw [e, nI_clamp (by omega), nI_add]
theorem tsm_le {A : gg_M} (hA : WF A) : tsm A (xNM A) ≤ 480 := by
  refine Nat.le_trans (fb_sm_bound (c := 30) fun j hj => ?_) (by have := hA.2.2.2.2.1.2.1; omega)
  obtain ⟨-, -, h0, h1⟩ := hA.2.2.2.2.1.2.2 j hj
  obtain ⟨t, ht, e⟩ := rng (a := A.1 59 j) (b := 31) 31 rfl (by decide) ⟨h0, by grind⟩
  rw [e, nI_clamp (by omega)]
  omega
theorem xof0 {A : gg_M} (hA : WF A) : xof A 0 0 0 = nI (tsm A (xNM A)) := lof0 hA _ (Nat.le_refl _)
