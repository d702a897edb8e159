def kp (A : gg_M) (s i : Nat) (x : Int32) : gg_M := gg_wI A 63 (48 * s + i) (nrw (A.1 61 s) x)
theorem WF.kp {A : gg_M} (h : WF A) (s i : Nat) (x : Int32) : WF (kp A s i x) := h
theorem CI.kp {A u : gg_M} (hA : WF A) (h : CI A u) {s i : Nat} (x : Int32) (hs : s < 4) (hi : i < 48) : CI (kp A s i x) (gg_wI u (43 + s) i (nrw (A.1 61 s) x)) := by
  have hF : Fr PSh u (gg_wI u (43 + s) i (nrw (A.1 61 s) x)) := Fr.rf.wI (by simp [PSh]; omega)
  refine CI_sh h hF (fun t _ h2 => gi_nt _ _ _ _ (by omega)) rfl rfl (fun t ht => ?_) ?_
  · obtain ⟨h1, h2⟩ := h.1.2.2.2.2.2.2.1 t ht
    rw [gi_nt _ _ _ _ (show 39 + t ≠ 43 + s by omega)]
    refine ⟨h1, fun z => ⟨(h2 z).1, (h2 z).2.1, fun j hj => ?_⟩⟩
    have hj : j < xZ A t := hj
    have hjl : j < 48 := by
      rcases hA.2.2.2.2.2 t ht with y | y
      · have z : A.1 60 t = 1 := z
        rw [y] at z
        exact absurd z (by decide)
      · omega
    show _ = (gg_wI A 63 (48 * s + i) (nrw (A.1 61 s) x)).1 63 (48 * t + j)
    by_cases es : t = s
    · subst es
      by_cases ej : j = i
      · subst ej
        rw [gi_eq, gi_eq]
      · rw [gi_ne _ _ _ _ ej, gi_ne _ _ _ _ (by omega)]
        exact (h2 z).2.2 j hj
    · rw [gi_nt _ _ _ _ (by omega), gi_ne _ _ _ _ (by omega)]
      exact (h2 z).2.2 j hj
  · show _ = A.1 1 24
    rw [gi_nt _ _ _ _ (by omega)]
    exact h.1.2.2.2.2.2.2.2
def n_put (A : gg_M) (a f i x : Int32) : gg_M := if (0 ≤ a ∧ a < 4) ∧ 0 ≤ f ∧ f < 3 then (if lk A a.toNatClampNeg f i = 0 then kp A a.toNatClampNeg i.toNatClampNeg x else fd A (lk A a.toNatClampNeg f i)) else A
def m_put (A : gg_M) (a f i : Int32) : Int32 := if (0 ≤ a ∧ a < 4) ∧ 0 ≤ f ∧ f < 3 then (if lk A a.toNatClampNeg f i = 0 then 1 else -10 - lk A a.toNatClampNeg f i) else -2
theorem w_put {A : gg_M} {a f i x : Int32} (hA : WF A) : WF (n_put A a f i x) := by
  unfold n_put
  split
  · split
    · exact hA.kp _ _ _
    · exact hA.fd _
  · exact hA
theorem lk_0 {A : gg_M} {s : Nat} {f i : Int32} (hA : WF A) (hs : s < 4) (h : lk A s f i = 0) : A.1 60 s = 1 ∧ A.1 62 s = nI (xZ A s) ∧ xZ A s ≤ 48 ∧ ∃ k, k < xZ A s ∧ i = nI k := by
  unfold lk at h
  split at h
  · exact absurd h (by decide)
  · rename_i c
    split at h
    · split at h
      · rename_i c3
        rcases hA.2.2.2.2.2 s hs with y | y
        · exact absurd y c
        · refine ⟨y.1, y.2.2.1, y.2.2.2, rng (xZ A s) y.2.2.1 (by have := y.2.2.2; omega) c3⟩
      · exact absurd h (by decide)
    · exact absurd h (by decide)
theorem c_put {A u : gg_M} {a f i x : Int32} {Q : Int32 → gg_M → Prop} (hA : WF A) (h : CI A u) (hQ : ∀ v, Fr PC u v → CI (n_put A a f i x) v → Q (m_put A a f i) v) : w_X10_put a f i x u Q := by
  unfold w_X10_put w_X10_put_c16
  unfold n_put m_put at hQ
  have bad : ¬ ((0 ≤ a ∧ a < 4) ∧ 0 ≤ f ∧ f < 3) → Q (-2) u := fun z => by
    simp only [if_neg z] at hQ
    exact hQ u Fr.rf h
  refine isB_s (fun c => t1 ?_) (fun c => t0 (bad fun z => c z.1))
  refine isB_s (fun c2 => y1 ?_) (fun c2 => y0 (bad fun z => c2 z.2))
  simp only [if_pos (And.intro c c2)] at hQ
  obtain ⟨s, hs, rfl⟩ := rng 4 rfl (by decide) c
  rw [nI_clamp (by omega)] at hQ ⊢
  obtain ⟨r1, r2, r3⟩ := sh_rf s hs
  rw [r1]
  refine ⟨vp_in_nI hs (by decide), wrongWith_s hA h.1 hs ⟨fun c3 => ⟨vp_in_nI hs (by decide), ?_⟩, fun c3 => found_s h ?_⟩⟩
  · simp only [if_pos c3] at hQ
    obtain ⟨y1, y2, y3, k, hk, rfl⟩ := lk_0 hA hs c3
    rw [nI_clamp (by omega)] at hQ
    exact keep_s h.1 hs y1 y2 y3 hk (hQ _ ((Fr.wI (P := PSh) Fr.rf (by simp [PSh]; omega)).mono PSh_C) (CI.kp hA h x hs (by omega)))
  · simp only [if_neg c3] at hQ
    exact hQ
theorem r_put {A u : gg_M} {a f i x : Int32} {Q : Int32 → gg_M → Prop} (hA : WF A) (h : RI A u) (hQ : ∀ v, Fr PR u v → RI (n_put A a f i x) v → Q (m_put A a f i) v) : w_X11_put a f i x u Q := by
  unfold w_X11_put w_X11_put_c16
  unfold n_put m_put at hQ
  have bad : ¬ ((0 ≤ a ∧ a < 4) ∧ 0 ≤ f ∧ f < 3) → Q (-2) u := fun z => by
    simp only [if_neg z] at hQ
    exact hQ u Fr.rf h
  refine isSheet_s (fun c => t1 ?_) (fun c => t0 (bad fun z => c z.1))
  refine in_s 3 (le2 f) (fun c2 => y1 ?_) (fun c2 => y0 (bad fun z => c2 z.2))
  simp only [if_pos (And.intro c c2)] at hQ
  obtain ⟨s, hs, rfl⟩ := rng 4 rfl (by decide) c
  rw [nI_clamp (by omega)] at hQ
  refine lacks_s hA h hs ⟨fun c3 => ?_, fun c3 => meets_s h ?_⟩
  · have c3 : lk A s f i = 0 := by
      rcases lk_b A s f i with z | z | z | z
      · exact z
      all_goals (rw [z] at c3; exact absurd c3 (by decide))
    simp only [if_pos c3] at hQ
    obtain ⟨y1, y2, y3, k, hk, rfl⟩ := lk_0 hA hs c3
    rw [nI_clamp (by omega)] at hQ
    exact mkeep_s h hs (by omega) (hQ _ (Fr.rf.wI rfl) (h.wI 63 _ _))
  · have c3 : ¬ lk A s f i = 0 := fun z => c3 (by rw [z]; decide)
    simp only [if_neg c3] at hQ
    exact hQ
def n_get (A : gg_M) (a f i : Int32) : gg_M := if (0 ≤ a ∧ a < 4) ∧ 0 ≤ f ∧ f < 3 then (if lk A a.toNatClampNeg f i = 0 then A else fd A (lk A a.toNatClampNeg f i)) else A
def m_get (A : gg_M) (a f i : Int32) : Int32 := if (0 ≤ a ∧ a < 4) ∧ 0 ≤ f ∧ f < 3 then (if lk A a.toNatClampNeg f i = 0 then A.1 63 (48 * a.toNatClampNeg + i.toNatClampNeg) else -2147483648) else -2147483648
theorem w_get {A : gg_M} {a f i : Int32} (hA : WF A) : WF (n_get A a f i) := by
  unfold n_get
  split
  · split
    · exact hA
    · exact hA.fd _
  · exact hA
theorem itemAt_s {A u : gg_M} {s k : Nat} {Q : Int32 → gg_M → Prop} (h : CC A u) (hs : s < 4) (hy : A.1 60 s = 1) (hz : A.1 62 s = nI (xZ A s)) (hzl : xZ A s ≤ 48) (hk : k < xZ A s) (hQ : Q (A.1 63 (48 * s + k)) u) : w_X6_itemAt (39 + s) (nI k) u Q := by
  unfold w_X6_itemAt w_X6_itemAt_c26 w_X6_itemAt_c27
  obtain ⟨r1, r2, r3⟩ := sh_rf s hs
  obtain ⟨q1, q2, q3⟩ := (h.2.2.2.2.2.2.1 s hs).2 hy
  rw [r2, r3, nI_clamp (by omega), q2, hz]
  refine isB_s (fun c => t1 ⟨fun c2 => ?_, fun c2 => ⟨vp_in_nI (by omega) (by decide), ?_⟩⟩) (fun c => ?_)
  · have c2 : nI 48 ≤ nI k := c2
    rw [nI_leI (by decide) (by omega)] at c2
    omega
  · rw [q3 k hk]
    exact hQ
  · exact absurd ⟨nI_pos' (by omega), (nI_ltI (by omega) (by omega)).mpr hk⟩ c
theorem c_get {A u : gg_M} {a f i : Int32} {Q : Int32 → gg_M → Prop} (hA : WF A) (h : CI A u) (hQ : ∀ v, Fr PC u v → CI (n_get A a f i) v → Q (m_get A a f i) v) : w_X10_get a f i u Q := by
  unfold w_X10_get w_X10_get_c16
  unfold n_get m_get at hQ
  have bad : ¬ ((0 ≤ a ∧ a < 4) ∧ 0 ≤ f ∧ f < 3) → Q (-2147483648) u := fun z => by
    simp only [if_neg z] at hQ
    exact hQ u Fr.rf h
  refine isB_s (fun c => t1 ?_) (fun c => t0 (bad fun z => c z.1))
  refine isB_s (fun c2 => y1 ?_) (fun c2 => y0 (bad fun z => c2 z.2))
  simp only [if_pos (And.intro c c2)] at hQ
  obtain ⟨s, hs, rfl⟩ := rng 4 rfl (by decide) c
  rw [nI_clamp (by omega)] at hQ ⊢
  obtain ⟨r1, r2, r3⟩ := sh_rf s hs
  rw [r1]
  refine ⟨vp_in_nI hs (by decide), wrongWith_s hA h.1 hs ⟨fun c3 => ⟨vp_in_nI hs (by decide), ?_⟩, fun c3 => ?_⟩⟩
  · simp only [if_pos c3] at hQ
    obtain ⟨y1, y2, y3, k, hk, rfl⟩ := lk_0 hA hs c3
    rw [nI_clamp (by omega)] at hQ
    exact itemAt_s h.1 hs y1 y2 y3 hk (hQ u Fr.rf h)
  · simp only [if_neg c3] at hQ
    rintro _ rfl
    exact hQ _ (Fr.rf.wI rfl) (h.fd _)
theorem r_get {A u : gg_M} {a f i : Int32} {Q : Int32 → gg_M → Prop} (hA : WF A) (h : RI A u) (hQ : ∀ v, Fr PR u v → RI (n_get A a f i) v → Q (m_get A a f i) v) : w_X11_get a f i u Q := by
  unfold w_X11_get w_X11_get_c16
  unfold n_get m_get at hQ
  have bad : ¬ ((0 ≤ a ∧ a < 4) ∧ 0 ≤ f ∧ f < 3) → Q (-2147483648) u := fun z => by
    simp only [if_neg z] at hQ
    exact hQ u Fr.rf h
  refine isSheet_s (fun c => t1 ?_) (fun c => t0 (bad fun z => c z.1))
  refine in_s 3 (le2 f) (fun c2 => y1 ?_) (fun c2 => y0 (bad fun z => c2 z.2))
  simp only [if_pos (And.intro c c2)] at hQ
  obtain ⟨s, hs, rfl⟩ := rng 4 rfl (by decide) c
  rw [nI_clamp (by omega)] at hQ
  refine lacks_s hA h hs ⟨fun c3 => ?_, fun c3 => ?_⟩
  · have c3 : lk A s f i = 0 := by
      rcases lk_b A s f i with z | z | z | z
      · exact z
      all_goals (rw [z] at c3; exact absurd c3 (by decide))
    simp only [if_pos c3] at hQ
    obtain ⟨y1, y2, y3, k, hk, rfl⟩ := lk_0 hA hs c3
    rw [nI_clamp (by omega)] at hQ
    have e : (48 : Int32) * nI s + nI k = nI (48 * s + k) := by rw [show (48 : Int32) = nI 48 from rfl, pk_mul, nI_add]
    rw [e, nI_clamp (by omega), h.e 63]
    exact ⟨vp_in_nI (by omega) (by decide), hQ u Fr.rf h⟩
  · have c3 : ¬ lk A s f i = 0 := fun z => c3 (by rw [z]; decide)
    simp only [if_neg c3] at hQ
    rintro _ rfl
    exact hQ _ (Fr.rf.wI rfl) (h.wI 1 24 _)
