theorem r_type {A u : gg_M} {a b : Int32} {Q : Int32 → gg_M → Prop} (hA : WF A) (h : RI A u) (hQ : ∀ v, Fr PR u v → RI (n_type A a b) v → Q (m_type A a b) v) : w_X11_type a b u Q := by
  unfold w_X11_type w_X11_type_c18 w_X11_type_c38
  unfold n_type m_type at hQ
  refine isText_s (fun c => t1 ?_) (fun c => t0 ?_)
  · refine in_s 256 (by grind) (fun c2 => y1 ?_) (fun c2 => y0 ?_)
    · simp only [if_pos (And.intro c c2)] at hQ
      by_cases c3 : a = 0
      · subst c3
        simp only [if_true] at hQ
        have hc : (0 : Int32).toNatClampNeg = 0 := by decide
        have hn : u.1 48 0 = nI (xT0 A) := (h.e 48 0).trans hA.1.1
        have hv : vp_in (0 : Int32) 2 := vp_in_nI (n := 0) (by decide) (by decide)
        have hl := hA.1.2
        have e1 : (60 : Int32) * 0 + nI (xT0 A) = nI (60 * 0 + xT0 A) := by rw [show (60 : Int32) * 0 = nI (60 * 0) from rfl, nI_add]
        rw [hc, hn, e1, nI_clamp (by omega)]
        refine ⟨hv, fun z => absurd rfl z, fun _ => ⟨fun c4 => ⟨hv, vp_in_nI ?_ (by decide), ?_⟩, fun c4 => ?_⟩⟩
        · omega
        · have c4 : ¬ nI (xT0 A) = nI 60 := c4
          rw [nI_eq (by omega) (by decide)] at c4
          simp only [if_neg c4] at hQ
          rintro _ rfl
          refine ⟨hv, hv, ?_⟩
          rintro _ rfl
          refine ⟨hv, ?_⟩
          rw [gi_eq, gi_nt _ _ _ _ (by decide), hn, nI_1]
          exact hQ _ ((Fr.rf.wI rfl).wI rfl) ((h.wI 47 _ b).wI 48 0 _)
        · have c4 : nI (xT0 A) = nI 60 := c4
          rw [nI_eq (by omega) (by decide)] at c4
          simp only [if_pos c4] at hQ
          exact hQ u Fr.rf h
      · obtain rfl := i01 c c3
        simp only [if_neg c3] at hQ
        have hc : (1 : Int32).toNatClampNeg = 1 := by decide
        have hn : u.1 48 1 = nI (xT1 A) := (h.e 48 1).trans hA.2.1.1
        have hv : vp_in (1 : Int32) 2 := vp_in_nI (n := 1) (by decide) (by decide)
        have hl := hA.2.1.2
        have e1 : (60 : Int32) * 1 + nI (xT1 A) = nI (60 * 1 + xT1 A) := by rw [show (60 : Int32) * 1 = nI (60 * 1) from rfl, nI_add]
        rw [hc, hn, e1, nI_clamp (by omega)]
        refine ⟨hv, fun _ => ⟨fun c4 => ⟨hv, vp_in_nI ?_ (by decide), ?_⟩, fun c4 => ?_⟩, fun z => absurd z (by decide)⟩
        · omega
        · have c4 : ¬ nI (xT1 A) = nI 40 := c4
          rw [nI_eq (by omega) (by decide)] at c4
          simp only [if_neg c4] at hQ
          rintro _ rfl
          refine ⟨hv, hv, ?_⟩
          rintro _ rfl
          refine ⟨hv, ?_⟩
          rw [gi_eq, gi_nt _ _ _ _ (by decide), hn, nI_1]
          exact hQ _ ((Fr.rf.wI rfl).wI rfl) ((h.wI 47 _ b).wI 48 1 _)
        · have c4 : nI (xT1 A) = nI 40 := c4
          rw [nI_eq (by omega) (by decide)] at c4
          simp only [if_pos c4] at hQ
          exact hQ u Fr.rf h
    · simp only [if_neg (fun z : (0 ≤ a ∧ a < 2) ∧ 0 ≤ b ∧ b < 256 => c2 z.2)] at hQ
      exact hQ u Fr.rf h
  · simp only [if_neg (fun z : (0 ≤ a ∧ a < 2) ∧ 0 ≤ b ∧ b < 256 => c z.1)] at hQ
    exact hQ u Fr.rf h
/-! a text is wiped -/
def n_wipe (A : gg_M) (a : Int32) : gg_M := if 0 ≤ a ∧ a < 2 then gg_wI A 48 a.toNatClampNeg 0 else A
def m_wipe (A : gg_M) (a : Int32) : Int32 := if 0 ≤ a ∧ a < 2 then A.1 48 a.toNatClampNeg else -2
theorem w_wipe {A : gg_M} {a : Int32} (hA : WF A) : WF (n_wipe A a) := by
  unfold n_wipe
  split
  · rename_i c
    obtain ⟨w0, w1, w2, w3, w4, w5⟩ := hA
    by_cases c3 : a = 0
    · subst c3
      exact ⟨⟨rfl, by show 0 ≤ 60; omega⟩, w1, w2, w3, w4, w5⟩
    · obtain rfl := i01 c c3
      exact ⟨w0, ⟨rfl, by show 0 ≤ 40; omega⟩, w2, w3, w4, w5⟩
  · exact hA
theorem c_wipe {A u : gg_M} {a : Int32} {Q : Int32 → gg_M → Prop} (h : CI A u) (hQ : ∀ v, Fr PC u v → CI (n_wipe A a) v → Q (m_wipe A a) v) : w_X10_wipe a u Q := by
  unfold w_X10_wipe
  unfold n_wipe m_wipe at hQ
  refine isB_s (fun c => y1 ?_) (fun c => y0 ?_)
  · simp only [if_pos c] at hQ
    by_cases c3 : a = 0
    · subst c3
      refine ⟨fun z => absurd rfl z, fun _ => ⟨rfl, ?_⟩⟩
      rintro _ rfl
      refine ⟨fun z => absurd rfl z, fun _ => ⟨rfl, ?_⟩⟩
      rintro _ rfl
      refine und0_s (n := 0) (gi_eq _ _ _ _) (by omega) fun f hf => ?_
      rw [h.1.1.1.1]
      have hc : CI (gg_wI A 48 0 0) (un0 (gg_wI u 2 1 0) 0 f) := CI_t0 h (fun t _ h2 => gi_nt _ _ _ _ h2) rfl rfl (fun t h1 _ => gi_nt _ _ _ _ h1) rfl (fun j hj => absurd hj (Nat.not_lt_zero _)) hf
      refine hQ _ ?_ hc
      unfold un0
      exact ((((Fr.rf.wI rfl).wI rfl).wA (fun _ => rfl)).wI rfl).wI rfl
    · obtain rfl := i01 c c3
      refine ⟨fun _ => ⟨rfl, ?_⟩, fun z => absurd z (by decide)⟩
      rintro _ rfl
      refine ⟨fun _ => ⟨rfl, ?_⟩, fun z => absurd z (by decide)⟩
      rintro _ rfl
      refine und1_s (n := 0) (gi_eq _ _ _ _) (by omega) fun f hf => ?_
      rw [h.1.1.2.1]
      have hc : CI (gg_wI A 48 1 0) (un1 (gg_wI u 3 1 0) 0 f) := CI_t1 h (fun t _ h2 => gi_nt _ _ _ _ h2) rfl (fun _ _ => rfl) (fun t h1 _ => gi_nt _ _ _ _ h1) rfl rfl (fun j hj => absurd hj (Nat.not_lt_zero _)) hf
      refine hQ _ ?_ hc
      unfold un1 gcu
      exact ((((Fr.rf.wI rfl).wA (fun _ => rfl)).wI rfl).wI rfl).wI rfl
  · simp only [if_neg c] at hQ
    exact hQ u Fr.rf h
theorem r_wipe {A u : gg_M} {a : Int32} {Q : Int32 → gg_M → Prop} (h : RI A u) (hQ : ∀ v, Fr PR u v → RI (n_wipe A a) v → Q (m_wipe A a) v) : w_X11_wipe a u Q := by
  unfold w_X11_wipe
  unfold n_wipe m_wipe at hQ
  refine isText_s (fun c => y1 ?_) (fun c => y0 ?_)
  · simp only [if_pos c] at hQ
    obtain ⟨t, ht, rfl⟩ := rng 2 rfl (by decide) c
    rw [nI_clamp (by omega)] at hQ ⊢
    refine ⟨vp_in_nI ht (by decide), ?_⟩
    rintro _ rfl
    refine ⟨vp_in_nI ht (by decide), ?_⟩
    rintro _ rfl
    rw [h.e 48 t]
    exact hQ _ (Fr.rf.wI rfl) (h.wI 48 t 0)
  · simp only [if_neg c] at hQ
    exact hQ u Fr.rf h
/-! odds ahead -/
def n_ahead (A : gg_M) (a b : Int32) : gg_M := if (0 ≤ a ∧ a < 5) ∧ 0 ≤ b ∧ b < 17 then gg_wI A 52 a.toNatClampNeg b else A
def m_ahead (A : gg_M) (a b : Int32) : Int32 := if (0 ≤ a ∧ a < 5) ∧ 0 ≤ b ∧ b < 17 then A.1 52 a.toNatClampNeg else -2
theorem w_ahead {A : gg_M} {a b : Int32} (hA : WF A) : WF (n_ahead A a b) := by
  unfold n_ahead
  split
  · rename_i c
    obtain ⟨w0, w1, w2, w3, w4, w5⟩ := hA
    refine ⟨w0, w1, fun t ht => ?_, w3, w4, w5⟩
    by_cases e : t = a.toNatClampNeg
    · subst e
      rw [gi_eq]
      exact ⟨c.2.1, by have := c.2.2; grind⟩
    · rw [gi_ne _ _ _ _ e]
      exact w2 t ht
  · exact hA
theorem c_ahead {A u : gg_M} {a b : Int32} {Q : Int32 → gg_M → Prop} (h : CI A u) (hQ : ∀ v, Fr PC u v → CI (n_ahead A a b) v → Q (m_ahead A a b) v) : w_X10_ahead a b u Q := by
  unfold w_X10_ahead w_X10_ahead_c17
  unfold n_ahead m_ahead at hQ
  refine isB_s (fun c => t1 ?_) (fun c => t0 ?_)
  · refine isB_s (fun c2 => y1 ?_) (fun c2 => y0 ?_)
    · simp only [if_pos (And.intro c c2)] at hQ
      obtain ⟨t, ht, rfl⟩ := rng 5 rfl (by decide) c
      rw [nI_clamp (by omega)] at hQ ⊢
      refine ⟨vp_in_nI ht (by decide), ?_⟩
      rintro _ rfl
      refine ⟨vp_in_nI ht (by decide), ?_⟩
      rintro _ rfl _ rfl
      rw [h.1.2.2.2.1 t ht]
      refine hQ _ ((Fr.rf.wI rfl).wI rfl) ?_
      obtain ⟨⟨ct, cm, cp, ca, cs, cn, ch, cf⟩, kb, kt, kl⟩ := h
      refine ⟨⟨ct.tr rfl (fun _ _ => rfl) rfl rfl rfl rfl rfl rfl, cm.tr rfl (fun _ _ => rfl) rfl rfl, cp.tr rfl rfl rfl rfl, fun j hj => ?_, cs.tr rfl rfl rfl rfl rfl rfl, cn.tr rfl rfl rfl rfl rfl rfl rfl rfl, ch.tr rfl rfl rfl rfl (h4c rfl rfl rfl rfl) (h4c rfl rfl rfl rfl), cf.tr rfl rfl⟩, Or.inl rfl, kt.tr rfl rfl rfl rfl rfl, kl.tr rfl rfl rfl rfl rfl rfl⟩
      rw [gi_nt _ _ _ _ (by decide)]
      by_cases e : j = t
      · subst e
        rw [gi_eq, gi_eq]
      · rw [gi_ne _ _ _ _ e, gi_ne _ _ _ _ e]
        exact ca j hj
    · simp only [if_neg (fun z : (0 ≤ a ∧ a < 5) ∧ 0 ≤ b ∧ b < 17 => c2 z.2)] at hQ
      exact hQ u Fr.rf h
  · simp only [if_neg (fun z : (0 ≤ a ∧ a < 5) ∧ 0 ≤ b ∧ b < 17 => c z.1)] at hQ
    exact hQ u Fr.rf h
theorem r_ahead {A u : gg_M} {a b : Int32} {Q : Int32 → gg_M → Prop} (h : RI A u) (hQ : ∀ v, Fr PR u v → RI (n_ahead A a b) v → Q (m_ahead A a b) v) : w_X11_ahead a b u Q := by
  unfold w_X11_ahead w_X11_ahead_c19
  unfold n_ahead m_ahead at hQ
  refine in_s 5 (le4 a) (fun c => t1 ?_) (fun c => t0 ?_)
  · refine in_s 17 (by grind) (fun c2 => y1 ?_) (fun c2 => y0 ?_)
    · simp only [if_pos (And.intro c c2)] at hQ
      obtain ⟨t, ht, rfl⟩ := rng 5 rfl (by decide) c
      rw [nI_clamp (by omega)] at hQ ⊢
      refine ⟨vp_in_nI ht (by decide), ?_⟩
      rintro _ rfl
      refine ⟨vp_in_nI ht (by decide), ?_⟩
      rintro _ rfl
      rw [h.e 52 t]
      exact hQ _ (Fr.rf.wI rfl) (h.wI 52 t b)
    · simp only [if_neg (fun z : (0 ≤ a ∧ a < 5) ∧ 0 ≤ b ∧ b < 17 => c2 z.2)] at hQ
      exact hQ u Fr.rf h
  · simp only [if_neg (fun z : (0 ≤ a ∧ a < 5) ∧ 0 ≤ b ∧ b < 17 => c z.1)] at hQ
    exact hQ u Fr.rf h
/-! what is seen -/
def n_see (A : gg_M) (a b : Int32) : gg_M := if (0 ≤ a ∧ a < 10) ∧ 0 ≤ b ∧ b < 7 then (if xNS A = 24 then A else gg_wI (gg_wI (gg_wI A 53 (xNS A) a) 54 (xNS A) b) 1 8 (nI (xNS A + 1))) else A
def m_see (A : gg_M) (a b : Int32) : Int32 := if (0 ≤ a ∧ a < 10) ∧ 0 ≤ b ∧ b < 7 then (if xNS A = 24 then -4 else nI (xNS A + 1)) else -2
theorem w_see {A : gg_M} {a b : Int32} (hA : WF A) : WF (n_see A a b) := by
  unfold n_see
  split
  · rename_i c
    split
    · exact hA
    · rename_i c2
      obtain ⟨w0, w1, w2, w3, w4, w5⟩ := hA
      have hl := w3.2.1
      have e : xNS (gg_wI (gg_wI (gg_wI A 53 (xNS A) a) 54 (xNS A) b) 1 8 (nI (xNS A + 1))) = xNS A + 1 := by
        show (nI (xNS A + 1)).toNatClampNeg = _
        exact nI_clamp (by omega)
      refine ⟨w0, w1, w2, ⟨by rw [e]; exact gi_eq _ _ _ _, by omega, fun j hj => ?_⟩, w4, w5⟩
      rw [e] at hj
      rw [gi_nt _ _ _ _ (show (53 : Nat) ≠ 1 by decide), gi_nt _ _ _ _ (show (53 : Nat) ≠ 54 by decide), gi_nt _ _ _ _ (show (54 : Nat) ≠ 1 by decide)]
      by_cases ej : j = xNS A
      · subst ej
        rw [gi_eq, gi_eq]
        exact ⟨⟨c.1.1, by have := c.1.2; grind⟩, c.2.1, by have := c.2.2; grind⟩
      · rw [gi_ne _ _ _ _ ej, gi_ne _ _ _ _ ej, gi_nt _ _ _ _ (show (54 : Nat) ≠ 53 by decide)]
        exact w3.2.2 j (by omega)
  · exact hA
theorem c_see {A u : gg_M} {a b : Int32} {Q : Int32 → gg_M → Prop} (hA : WF A) (h : CI A u) (hQ : ∀ v, Fr PC u v → CI (n_see A a b) v → Q (m_see A a b) v) : w_X10_see a b u Q := by
  unfold w_X10_see w_X10_see_c18
  unfold n_see m_see at hQ
  refine isB_s (fun c => t1 ?_) (fun c => t0 ?_)
  · refine isB_s (fun c2 => y1 ?_) (fun c2 => y0 ?_)
    · simp only [if_pos (And.intro c c2)] at hQ
      unfold w_X2_takes w_X2_takes_c16
      have hn := h.1.ns hA
      have hl := hA.2.2.2.1.2.1
      rw [hn]
      refine ⟨fun z => absurd z (nI_pos (by omega)), fun _ => ⟨fun c4 => ⟨vp_in_nI ?_ (by decide), ?_⟩, fun c4 => y0 ?_⟩⟩
      · have c4 : nI (xNS A) < nI 24 := c4
        rwa [nI_ltI (by omega) (by decide)] at c4
      · have c4 : nI (xNS A) < nI 24 := c4
        rw [nI_ltI (by omega) (by decide)] at c4
        simp only [if_neg (show ¬ xNS A = 24 by omega)] at hQ
        rw [nI_clamp (by omega)]
        rintro _ rfl
        rw [gi_nt _ _ _ _ (by decide), hn]
        refine ⟨vp_in_nI c4 (by decide), ?_⟩
        rw [nI_clamp (by omega)]
        rintro _ rfl _ rfl
        rw [gi_nt _ _ _ _ (by decide), gi_nt _ _ _ _ (by decide), hn, nI_1]
        refine y1 ?_
        rintro _ rfl
        rw [gi_nt _ _ _ _ (by decide), gi_eq]
        refine hQ _ ((((Fr.rf.wI rfl).wI rfl).wI rfl).wI rfl) ?_
        obtain ⟨⟨ct, cm, cp, ca, cs, cn, ch, cf⟩, kb, kt, kl⟩ := h
        refine ⟨⟨ct.tr rfl (fun _ _ => rfl) rfl rfl rfl rfl rfl rfl, cm.tr rfl (fun _ _ => rfl) rfl rfl, cp.tr rfl rfl rfl rfl, ca.tr rfl rfl, ⟨rfl, fun j hj => ?_⟩, cn.tr rfl rfl rfl rfl rfl rfl rfl rfl, ch.tr rfl rfl rfl rfl (h4c rfl rfl rfl rfl) (h4c rfl rfl rfl rfl), cf.tr rfl rfl⟩, Or.inl rfl, kt.tr rfl rfl rfl rfl rfl, kl.tr rfl rfl rfl rfl rfl rfl⟩
        have e : xNS (gg_wI (gg_wI (gg_wI A 53 (xNS A) a) 54 (xNS A) b) 1 8 (nI (xNS A + 1))) = xNS A + 1 := by
          show (nI (xNS A + 1)).toNatClampNeg = _
          exact nI_clamp (by omega)
        rw [e] at hj
        show upd (u.1 13) (xNS A) a j = upd (A.1 53) (xNS A) a j ∧ upd (u.1 14) (xNS A) b j = upd (A.1 54) (xNS A) b j
        by_cases ej : j = xNS A
        · subst ej
          rw [upd_self, upd_self, upd_self, upd_self]
          exact ⟨rfl, rfl⟩
        · rw [upd_ne _ _ ej, upd_ne _ _ ej, upd_ne _ _ ej, upd_ne _ _ ej]
          exact cs.2 j (by omega)
      · have c4 : ¬ nI (xNS A) < nI 24 := c4
        rw [nI_ltI (by omega) (by decide)] at c4
        simp only [if_pos (show xNS A = 24 by omega)] at hQ
        exact hQ u Fr.rf h
    · simp only [if_neg (fun z : (0 ≤ a ∧ a < 10) ∧ 0 ≤ b ∧ b < 7 => c2 z.2)] at hQ
      exact hQ u Fr.rf h
  · simp only [if_neg (fun z : (0 ≤ a ∧ a < 10) ∧ 0 ≤ b ∧ b < 7 => c z.1)] at hQ
    exact hQ u Fr.rf h
theorem r_more {A u : gg_M} {a b : Int32} {Q : Int32 → gg_M → Prop} (hA : WF A) (h : RI A u) (hQ : ∀ v, Fr PR u v → RI (n_see A a b) v → Q (m_see A a b) v) : w_X11_more a b u Q := by
  unfold w_X11_more w_X11_more_c20
  unfold n_see m_see at hQ
  refine in_s 10 (le9 a) (fun c => t1 ?_) (fun c => t0 ?_)
  · refine in_s 7 (le6 b) (fun c2 => y1 ?_) (fun c2 => y0 ?_)
    · simp only [if_pos (And.intro c c2)] at hQ
      have hn : u.1 1 8 = nI (xNS A) := (h.e 1 8).trans hA.2.2.2.1.1
      have hl := hA.2.2.2.1.2.1
      rw [hn]
      refine ⟨fun c4 => ?_, fun c4 => ?_⟩
      · have c4 : ¬ nI (xNS A) = nI 24 := c4
        rw [nI_eq (by omega) (by decide)] at c4
        simp only [if_neg c4] at hQ
        refine ⟨vp_in_nI (by omega) (by decide), ?_⟩
        rw [nI_clamp (by omega)]
        rintro _ rfl
        rw [gi_nt _ _ _ _ (by decide), hn]
        refine ⟨vp_in_nI (by omega) (by decide), ?_⟩
        rw [nI_clamp (by omega)]
        rintro _ rfl _ rfl
        rw [gi_eq, gi_nt _ _ _ _ (by decide), gi_nt _ _ _ _ (by decide), hn, nI_1]
        exact hQ _ (((Fr.rf.wI rfl).wI rfl).wI rfl) (((h.wI 53 _ a).wI 54 _ b).wI 1 8 _)
      · have c4 : nI (xNS A) = nI 24 := c4
        rw [nI_eq (by omega) (by decide)] at c4
        simp only [if_pos c4] at hQ
        exact hQ u Fr.rf h
    · simp only [if_neg (fun z : (0 ≤ a ∧ a < 10) ∧ 0 ≤ b ∧ b < 7 => c2 z.2)] at hQ
      exact hQ u Fr.rf h
  · simp only [if_neg (fun z : (0 ≤ a ∧ a < 10) ∧ 0 ≤ b ∧ b < 7 => c z.1)] at hQ
    exact hQ u Fr.rf h
/-! the last is taken back -/
def n_back (A : gg_M) : gg_M := if xNS A = 0 then A else gg_wI A 1 8 (nI (xNS A - 1))
def m_back (A : gg_M) : Int32 := if xNS A = 0 then -3 else nI (xNS A - 1)
theorem back_N {A : gg_M} (hA : WF A) : xNS (gg_wI A 1 8 (nI (xNS A - 1))) = xNS A - 1 := by
  show (nI (xNS A - 1)).toNatClampNeg = _
  have := hA.2.2.2.1.2.1
  exact nI_clamp (by omega)
theorem w_back {A : gg_M} (hA : WF A) : WF (n_back A) := by
  unfold n_back
  split
  · exact hA
  · have e := back_N hA
    obtain ⟨w0, w1, w2, w3, w4, w5⟩ := hA
    have hl := w3.2.1
    refine ⟨w0, w1, w2, ⟨by rw [e]; exact gi_eq _ _ _ _, by omega, fun j hj => w3.2.2 j (by omega)⟩, w4, w5⟩
theorem nI_m1 {n : Nat} (h : 0 < n) : nI n - 1 = nI (n - 1) := by
  have := nI_pred (n - 1)
  rwa [show n - 1 + 1 = n by omega] at this
theorem c_back {A u : gg_M} {Q : Int32 → gg_M → Prop} (hA : WF A) (h : CI A u) (hQ : ∀ v, Fr PC u v → CI (n_back A) v → Q (m_back A) v) : w_X10_back u Q := by
  unfold w_X10_back
  unfold n_back m_back at hQ
  have hn := h.1.ns hA
  have hl := hA.2.2.2.1.2.1
  rw [hn]
  refine ⟨fun c => ?_, fun c => ?_⟩
  · have c : nI 0 < nI (xNS A) := c
    rw [nI_ltI (by decide) (by omega)] at c
    simp only [if_neg (show ¬ xNS A = 0 by omega)] at hQ
    rintro _ rfl _ rfl
    rw [gi_nt _ _ _ _ (by decide), gi_eq, nI_m1 c]
    refine hQ _ ((Fr.rf.wI rfl).wI rfl) ?_
    obtain ⟨⟨ct, cm, cp, ca, cs, cn, ch, cf⟩, kb, kt, kl⟩ := h
    refine ⟨⟨ct.tr rfl (fun _ _ => rfl) rfl rfl rfl rfl rfl rfl, cm.tr rfl (fun _ _ => rfl) rfl rfl, cp.tr rfl rfl rfl rfl, ca.tr rfl rfl, ⟨rfl, fun j hj => ?_⟩, cn.tr rfl rfl rfl rfl rfl rfl rfl rfl, ch.tr rfl rfl rfl rfl (h4c rfl rfl rfl rfl) (h4c rfl rfl rfl rfl), cf.tr rfl rfl⟩, Or.inl rfl, kt.tr rfl rfl rfl rfl rfl, kl.tr rfl rfl rfl rfl rfl rfl⟩
    rw [back_N hA] at hj
    exact cs.2 j (by omega)
  · have c : ¬ nI 0 < nI (xNS A) := c
    rw [nI_ltI (by decide) (by omega)] at c
    simp only [if_pos (show xNS A = 0 by omega)] at hQ
    exact hQ u Fr.rf h
theorem r_back {A u : gg_M} {Q : Int32 → gg_M → Prop} (hA : WF A) (h : RI A u) (hQ : ∀ v, Fr PR u v → RI (n_back A) v → Q (m_back A) v) : w_X11_back u Q := by
  unfold w_X11_back
  unfold n_back m_back at hQ
  have hn : u.1 1 8 = nI (xNS A) := (h.e 1 8).trans hA.2.2.2.1.1
  have hl := hA.2.2.2.1.2.1
  rw [hn]
  refine ⟨fun c => ?_, fun c => ?_⟩
  · have c : ¬ nI (xNS A) = nI 0 := c
    rw [nI_eq (by omega) (by decide)] at c
    simp only [if_neg c] at hQ
    rintro _ rfl
    rw [gi_eq, nI_m1 (by omega)]
    exact hQ _ (Fr.rf.wI rfl) (h.wI 1 8 _)
  · have c : nI (xNS A) = nI 0 := c
    rw [nI_eq (by omega) (by decide)] at c
    simp only [if_pos c] at hQ
    exact hQ u Fr.rf h
