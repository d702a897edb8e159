theorem RI.wA {A u : gg_M} (h : RI A u) (t : Nat) (f : Nat → Int32) : RI (gg_wA A t f) (gg_wA u t f) := fun a k q => by
  by_cases e : a = t
  · subst e
    rw [gg_wA_1, gg_wA_1]
  · rw [gg_wA_n _ _ e, gg_wA_n _ _ e]
    exact h a k q
theorem nar1 : vp_nar .boolean 1 = 1 := by decide
theorem nar0 : vp_nar .boolean 0 = 0 := by decide
theorem r_sheet {A u : gg_M} {a f n : Int32} {Q : Int32 → gg_M → Prop} (h : RI A u) (hQ : ∀ v, Fr PR u v → RI (n_sheet A a f n) v → Q (m_sheet a f n) v) : w_X11_sheet a f n u Q := by
  unfold w_X11_sheet w_X11_sheet_c22
  unfold n_sheet m_sheet at hQ
  have bad : ¬ ((0 ≤ a ∧ a < 4) ∧ (0 ≤ f ∧ f < 3) ∧ n ≤ 48) → Q (-2) u := fun z => by
    simp only [if_neg z] at hQ
    exact hQ u Fr.rf h
  refine isSheet_s (fun c => t1 ?_) (fun c => t0 (bad fun z => c z.1))
  refine in_s 3 (le2 f) (fun c2 => t1 ?_) (fun c2 => t0 (bad fun z => c2 z.2.1))
  refine ⟨fun c3 => ?_, fun c3 => bad fun z => c3 z.2.2⟩
  simp only [if_pos (And.intro c (And.intro c2 c3))] at hQ
  refine ⟨fun c4 => ?_, fun c4 => meets_s h ?_⟩
  · simp only [if_pos c4] at hQ
    obtain ⟨s, hs, rfl⟩ := rng 4 rfl (by decide) c
    rw [nI_clamp (by omega)] at hQ ⊢
    refine ⟨vp_in_nI hs (by decide), ?_⟩
    rintro _ rfl
    refine ⟨vp_in_nI hs (by decide), ?_⟩
    rintro _ rfl
    refine ⟨vp_in_nI hs (by decide), ?_⟩
    rintro _ rfl
    rw [nar1]
    unfold w_X11_sheet_c59
    have e63 : u.1 63 = A.1 63 := funext fun j => h.e 63 j
    have hR : RI (gg_wI (gg_wI (gg_wI A 60 s 1) 61 s f) 62 s n) (gg_wI (gg_wI (gg_wI u 60 s 1) 61 s f) 62 s n) := ((h.wI 60 s 1).wI 61 s f).wI 62 s n
    have hF : Fr PR u (gg_wI (gg_wI (gg_wI u 60 s 1) 61 s f) 62 s n) := ((Fr.rf.wI rfl).wI rfl).wI rfl
    have w63 : (gg_wI (gg_wI (gg_wI u 60 s 1) 61 s f) 62 s n).1 63 = A.1 63 := e63
    generalize hw : gg_wI (gg_wI (gg_wI u 60 s 1) 61 s f) 62 s n = w at hR hF w63
    refine gl_up 48 (fun m q => q = (nI m, gg_wA w 63 (fun j => if 48 * s ≤ j ∧ j < 48 * s + m then 0 else A.1 63 j))) 0 (by decide) ?_ ?_
    · show (nI 0, w) = _
      congr 1
      rw [show (fun j => if 48 * s ≤ j ∧ j < 48 * s + 0 then 0 else A.1 63 j) = w.1 63 from ?_, gm_self]
      funext j
      rw [if_neg (by omega), w63]
    rintro m q hm rfl k hk
    unfold b_X11_sheet_c59
    dsimp only
    refine ⟨fun c5 => ?_, fun c5 => ?_⟩
    · have c5 : nI 48 ≤ nI m := c5
      rw [nI_leI (by decide) (by omega)] at c5
      obtain rfl : m = 48 := by omega
      exact hQ _ (hF.wA (fun _ => rfl)) (hR.wA 63 _)
    · have c5 : ¬ nI 48 ≤ nI m := c5
      rw [nI_leI (by decide) (by omega)] at c5
      have e : (48 : Int32) * nI s + nI m = nI (48 * s + m) := by rw [show (48 : Int32) = nI 48 from rfl, pk_mul, nI_add]
      rw [e, nI_clamp (by omega), nI_1]
      refine ⟨vp_in_nI (by omega) (by decide), ?_⟩
      rintro _ rfl
      refine hk (by omega) _ ?_
      rw [gm_I, gm_AA, gg_wA_1]
      congr 2
      funext j
      by_cases ej : j = 48 * s + m
      · subst ej
        rw [upd_self, if_pos ⟨by omega, by omega⟩]
      · rw [upd_ne _ _ ej]
        by_cases q : 48 * s ≤ j ∧ j < 48 * s + m
        · rw [if_pos q, if_pos ⟨by omega, by omega⟩]
        · rw [if_neg q, if_neg (by omega)]
  · simp only [if_neg c4] at hQ
    exact hQ
/-! a sheet is lost -/
def n_lose (A : gg_M) (a : Int32) : gg_M := if 0 ≤ a ∧ a < 4 then (if A.1 60 a.toNatClampNeg = 0 then fd A 1 else gg_wI A 60 a.toNatClampNeg 0) else A
def m_lose (A : gg_M) (a : Int32) : Int32 := if 0 ≤ a ∧ a < 4 then (if A.1 60 a.toNatClampNeg = 0 then -10 - 1 else A.1 62 a.toNatClampNeg) else -2
theorem w_lose {A : gg_M} {a : Int32} (hA : WF A) : WF (n_lose A a) := by
  unfold n_lose
  split
  · split
    · exact hA.fd 1
    · refine WF_sh hA (fun t _ h2 => gi_nt _ _ _ _ (by omega)) rfl rfl fun s hs => ?_
      by_cases e : s = a.toNatClampNeg
      · left
        rw [e, gi_eq]
      · have h9 := hA.2.2.2.2.2 s hs
        unfold okH
        rw [gi_ne _ _ _ _ e]
        exact h9
  · exact hA
theorem isLost_s {A u : gg_M} {s : Nat} {Q : Int32 → gg_M → Prop} (hA : WF A) (h : CC A u) (hs : s < 4) (h1 : A.1 60 s = 0 → Q 1 u) (h0 : A.1 60 s = 1 → Q 0 u) : w_X6_isLost (39 + s) u Q := by
  unfold w_X6_isLost w_X6_isLost_c13
  obtain ⟨c1, c2⟩ := h.2.2.2.2.2.2.1 s hs
  rcases hA.2.2.2.2.2 s hs with y | y
  · rw [c1 y]
    exact ⟨fun z => absurd rfl z, fun _ => ⟨Or.inr rfl, h1 y⟩⟩
  · rw [(c2 y.1).1]
    have : ¬ A.1 61 s = -1 := fun z => by
      have := y.2.1.1
      rw [z] at this
      exact absurd this (by decide)
    exact ⟨fun _ => ⟨Or.inl rfl, h0 y.1⟩, fun z => absurd z this⟩
theorem c_lose {A u : gg_M} {a : Int32} {Q : Int32 → gg_M → Prop} (hA : WF A) (h : CI A u) (hQ : ∀ v, Fr PC u v → CI (n_lose A a) v → Q (m_lose A a) v) : w_X10_lose a u Q := by
  unfold w_X10_lose
  unfold n_lose m_lose at hQ
  refine isB_s (fun c => y1 ?_) (fun c => y0 ?_)
  · simp only [if_pos c] at hQ
    obtain ⟨s, hs, rfl⟩ := rng 4 rfl (by decide) c
    rw [nI_clamp (by omega)] at hQ ⊢
    obtain ⟨r1, r2, r3⟩ := sh_rf s hs
    rw [r1]
    refine ⟨vp_in_nI hs (by decide), isLost_s hA h.1 hs (fun c2 => t1 (found_s h ?_)) (fun c2 => t0 ⟨vp_in_nI hs (by decide), ?_⟩)⟩
    · simp only [if_pos c2] at hQ
      exact hQ
    · simp only [if_neg (show ¬ A.1 60 s = 0 by rw [c2]; decide)] at hQ
      rintro _ rfl
      refine ⟨vp_in_nI hs (by decide), ?_⟩
      unfold w_X6_lay
      rw [r2]
      refine fill_s (by rw [r3]; decide) fun g _ _ => ?_
      rintro _ rfl _ rfl
      rw [((h.1.2.2.2.2.2.2.1 s hs).2 c2).2.1]
      have hF : Fr PSh u (gg_wI (gg_wI (gg_wA u (43 + s) g) (39 + s) 1 (-1)) (39 + s) 2 0) := ((Fr.rf.wA (fun _ => by simp [PSh]; omega)).wI (by simp [PSh]; omega)).wI (by simp [PSh]; omega)
      refine hQ _ (hF.mono PSh_C) (CI_sh h hF (fun t _ h2 => gi_nt _ _ _ _ (by omega)) rfl rfl (fun t ht => ?_) ?_)
      · by_cases es : t = s
        · subst es
          refine ⟨fun _ => ?_, fun z => ?_⟩
          · rw [gi_ne _ _ _ _ (by decide), gi_eq]
          · rw [gi_eq] at z
            exact absurd z (by decide)
        · have h9 := h.1.2.2.2.2.2.2.1 t ht
          rw [gi_ne _ _ _ _ es, gi_nt _ _ _ _ (show 39 + t ≠ 39 + s by omega), gi_nt _ _ _ _ (show 39 + t ≠ 39 + s by omega), gg_wA_n _ _ (show 39 + t ≠ 43 + s by omega), gi_nt _ _ _ _ (show 43 + t ≠ 39 + s by omega), gi_nt _ _ _ _ (show 43 + t ≠ 39 + s by omega), gg_wA_n _ _ (show 43 + t ≠ 43 + s by omega)]
          exact h9
      · show _ = A.1 1 24
        rw [gi_nt _ _ _ _ (by omega), gi_nt _ _ _ _ (by omega), gg_wA_n _ _ (by omega)]
        exact h.1.2.2.2.2.2.2.2
  · simp only [if_neg c] at hQ
    exact hQ u Fr.rf h
theorem r_lose {A u : gg_M} {a : Int32} {Q : Int32 → gg_M → Prop} (h : RI A u) (hQ : ∀ v, Fr PR u v → RI (n_lose A a) v → Q (m_lose A a) v) : w_X11_lose a u Q := by
  unfold w_X11_lose
  unfold n_lose m_lose at hQ
  refine isSheet_s (fun c => y1 ?_) (fun c => y0 ?_)
  · simp only [if_pos c] at hQ
    obtain ⟨s, hs, rfl⟩ := rng 4 rfl (by decide) c
    rw [nI_clamp (by omega)] at hQ ⊢
    rw [h.e 60 s, nar0]
    refine ⟨vp_in_nI hs (by decide), fun c2 => ⟨vp_in_nI hs (by decide), ?_⟩, fun c2 => meets_s h ?_⟩
    · simp only [if_neg c2] at hQ
      rintro _ rfl
      refine ⟨vp_in_nI hs (by decide), ?_⟩
      rw [gi_nt _ _ _ _ (by decide), h.e 62 s]
      exact hQ _ (Fr.rf.wI rfl) (h.wI 60 s 0)
    · simp only [if_pos c2] at hQ
      exact hQ
  · simp only [if_neg c] at hQ
    exact hQ u Fr.rf h
/-! an item is put, an item is got -/
def lk (A : gg_M) (s : Nat) (f i : Int32) : Int32 := if A.1 60 s = 0 then 1 else if A.1 61 s = f then (if 0 ≤ i ∧ i < A.1 62 s then 0 else 2) else 3
theorem lk_b (A : gg_M) (s : Nat) (f i : Int32) : lk A s f i = 0 ∨ lk A s f i = 1 ∨ lk A s f i = 2 ∨ lk A s f i = 3 := by
  unfold lk
  split
  · exact Or.inr (Or.inl rfl)
  · split
    · split
      · exact Or.inl rfl
      · exact Or.inr (Or.inr (Or.inl rfl))
    · exact Or.inr (Or.inr (Or.inr rfl))
theorem wrongWith_s {A u : gg_M} {s : Nat} {f i : Int32} {Q : Int32 → gg_M → Prop} (hA : WF A) (h : CC A u) (hs : s < 4) (hQ : Q (lk A s f i) u) : w_X6_wrongWith (39 + s) f i u Q := by
  unfold w_X6_wrongWith w_X6_wrongWith_c35
  unfold lk at hQ
  obtain ⟨c1, c2⟩ := h.2.2.2.2.2.2.1 s hs
  refine isLost_s hA h hs (fun y => t1 ?_) (fun y => t0 ?_)
  · rwa [if_pos y] at hQ
  · rw [if_neg (show ¬ A.1 60 s = 0 by rw [y]; decide)] at hQ
    rw [(c2 y).1, (c2 y).2.1]
    refine ⟨fun c3 => isB_s (fun c4 => t1 ?_) (fun c4 => t0 ?_), fun c3 => ?_⟩
    · rwa [if_pos c3, if_pos c4] at hQ
    · rwa [if_pos c3, if_neg c4] at hQ
    · rwa [if_neg c3] at hQ
theorem lacks_s {A u : gg_M} {s : Nat} {f i : Int32} {Q : Int32 → gg_M → Prop} (hA : WF A) (h : RI A u) (hs : s < 4) (hQ : Q (lk A s f i) u) : w_X11_lacks (nI s) f i u Q := by
  unfold w_X11_lacks w_X11_lacks_c48
  unfold lk at hQ
  rw [nI_clamp (by omega), h.e 60 s, h.e 61 s, h.e 62 s]
  refine ⟨vp_in_nI hs (by decide), fun c => ⟨vp_in_nI hs (by decide), fun c2 => ⟨vp_in_nI hs (by decide), ?_⟩, fun c2 => ?_⟩, fun c => ?_⟩
  · rw [if_neg c, if_pos c2] at hQ
    have hz : A.1 62 s = nI (xZ A s) ∧ xZ A s ≤ 48 := by
      rcases hA.2.2.2.2.2 s hs with y | y
      · exact absurd y c
      · exact y.2.2
    refine in_s (A.1 62 s) ?_ (fun c4 => t1 ?_) (fun c4 => t0 ?_)
    · have h1 := hz.2
      rw [hz.1]
      have h2 : nI (xZ A s) ≤ 48 := (nI_leI (b := 48) (by omega) (by decide)).mpr h1
      have h3 : 0 ≤ nI (xZ A s) := nI_pos' (by omega)
      grind
    · rwa [if_pos c4] at hQ
    · rwa [if_neg c4] at hQ
  · rwa [if_neg c, if_neg c2] at hQ
  · rwa [if_pos c] at hQ
def nrw (f x : Int32) : Int32 := if f = 0 then x.toInt8.toInt32 else if f = 1 then x.toInt16.toInt32 else x
theorem keep_s {A u : gg_M} {s i : Nat} {x : Int32} {Q : gg_M → Prop} (h : CC A u) (hs : s < 4) (hy : A.1 60 s = 1) (hz : A.1 62 s = nI (xZ A s)) (hzl : xZ A s ≤ 48) (hi : i < xZ A s) (hQ : Q (gg_wI u (43 + s) i (nrw (A.1 61 s) x))) : w_X6_keep (39 + s) (nI i) x u Q := by
  unfold w_X6_keep w_X6_keep_c48 w_X6_keep_c49
  obtain ⟨r1, r2, r3⟩ := sh_rf s hs
  obtain ⟨q1, q2, q3⟩ := (h.2.2.2.2.2.2.1 s hs).2 hy
  rw [r2, r3, nI_clamp (by omega)]
  unfold nrw at hQ
  refine isB_s (fun c => t1 ⟨fun c2 => ?_, fun c2 => ?_⟩) (fun c => ?_)
  · have c2 : nI 48 ≤ nI i := c2
    rw [nI_leI (by decide) (by omega)] at c2
    omega
  · rw [q1]
    refine ⟨fun c3 => ⟨fun c4 => ⟨vp_in_nI (by omega) (by decide), ?_⟩, fun c4 => ⟨vp_in_nI (by omega) (by decide), ?_⟩⟩, fun c3 => ⟨vp_in_nI (by omega) (by decide), ?_⟩⟩
    · rintro _ rfl
      rwa [if_neg c3, if_neg c4] at hQ
    · rintro _ rfl
      rwa [if_neg c3, if_pos c4] at hQ
    · rintro _ rfl
      rwa [if_pos c3] at hQ
  · refine absurd ⟨nI_pos' (by omega), ?_⟩ c
    rw [q2, hz]
    exact (nI_ltI (by omega) (by omega)).mpr hi
theorem mkeep_s {A u : gg_M} {s i : Nat} {x : Int32} {Q : gg_M → Prop} (h : RI A u) (hs : s < 4) (hi : i < 48) (hQ : Q (gg_wI u 63 (48 * s + i) (nrw (A.1 61 s) x))) : w_X11_keep (nI s) (nI i) x u Q := by
  unfold w_X11_keep w_X11_keep_c40
  unfold nrw at hQ
  have e : (48 : Int32) * nI s + nI i = nI (48 * s + i) := by rw [show (48 : Int32) = nI 48 from rfl, pk_mul, nI_add]
  rw [e, nI_clamp (n := s) (by omega), nI_clamp (by omega), h.e 61 s]
  refine ⟨vp_in_nI hs (by decide), fun c3 => ⟨vp_in_nI hs (by decide), fun c4 => ⟨vp_in_nI (by omega) (by decide), ?_⟩, fun c4 => ⟨vp_in_nI (by omega) (by decide), ?_⟩⟩, fun c3 => ⟨vp_in_nI (by omega) (by decide), ?_⟩⟩
  · rintro _ rfl
    rwa [if_neg c3, if_neg c4] at hQ
  · rintro _ rfl
    rwa [if_neg c3, if_pos c4] at hQ
  · rintro _ rfl
    rwa [if_pos c3] at hQ
