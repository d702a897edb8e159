/-! what would have been seen is written -/
def wrm (A : gg_M) (s e : Nat) : Nat → gg_M
  | 0 => A
  | k + 1 => kp (wrm A s e k) s k (dz_s (xmv A) (rn (xmv A) (A.1 53) e k) (A.1 53 k))
theorem wrm_o (A : gg_M) (s e : Nat) : ∀ k t, t ≠ 63 → (wrm A s e k).1 t = A.1 t
  | 0, _, _ => rfl
  | k + 1, t, h => by
    show (gg_wI _ 63 _ _).1 t = _
    rw [gi_nt _ _ _ _ h]
    exact wrm_o A s e k t h
theorem wrm_WF {A : gg_M} (hA : WF A) (s e : Nat) : ∀ k, WF (wrm A s e k)
  | 0 => hA
  | k + 1 => (wrm_WF hA s e k).kp _ _ _
def n_write (A : gg_M) (a b : Int32) : gg_M := if (0 ≤ a ∧ a < 32) ∧ 0 ≤ b ∧ b < 4 then (if A.1 60 b.toNatClampNeg = 0 then fd A 1 else wrm A b.toNatClampNeg a.toNatClampNeg (min (xZ A b.toNatClampNeg) (xNS A))) else A
def m_write (A : gg_M) (a b : Int32) : Int32 := if (0 ≤ a ∧ a < 32) ∧ 0 ≤ b ∧ b < 4 then (if A.1 60 b.toNatClampNeg = 0 then -10 - 1 else nI (min (xZ A b.toNatClampNeg) (xNS A))) else -2
theorem w_write {A : gg_M} {a b : Int32} (hA : WF A) : WF (n_write A a b) := by
  unfold n_write
  split
  · split
    · exact hA.fd 1
    · exact wrm_WF hA _ _ _
  · exact hA
theorem c_write {A u : gg_M} {a b : Int32} {Q : Int32 → gg_M → Prop} (hA : WF A) (h : CI A u) (hQ : ∀ v, Fr PC u v → CI (n_write A a b) v → Q (m_write A a b) v) : w_X10_write a b u Q := by
  unfold w_X10_write w_X10_write_c17
  unfold n_write m_write at hQ
  have bad : ¬ ((0 ≤ a ∧ a < 32) ∧ 0 ≤ b ∧ b < 4) → Q (-2) u := fun z => by
    simp only [if_neg z] at hQ
    exact hQ u Fr.rf h
  refine isB_s (fun c => t1 ?_) (fun c => t0 (bad fun z => c z.1))
  refine isB_s (fun c2 => y1 ?_) (fun c2 => y0 (bad fun z => c2 z.2))
  simp only [if_pos (And.intro c c2)] at hQ
  obtain ⟨e, he, rfl⟩ := rng 32 rfl (by decide) c
  obtain ⟨s, hs, rfl⟩ := rng 4 rfl (by decide) c2
  rw [nI_clamp (n := e) (by omega), nI_clamp (n := s) (by omega)] at hQ
  rw [nI_clamp (n := s) (by omega)]
  obtain ⟨r1, r2, r3⟩ := sh_rf s hs
  rw [r1]
  refine ⟨vp_in_nI hs (by decide), isLost_s hA h.1 hs (fun ys => t1 (found_s h ?_)) (fun ys => t0 ?_)⟩
  · simp only [if_pos ys] at hQ
    exact hQ
  · simp only [if_neg (show ¬ A.1 60 s = 0 by rw [ys]; decide)] at hQ
    obtain ⟨q1, q2, q3⟩ := (h.1.2.2.2.2.2.2.1 s hs).2 ys
    obtain ⟨hz, hzl⟩ : A.1 62 s = nI (xZ A s) ∧ xZ A s ≤ 48 := by
      rcases hA.2.2.2.2.2 s hs with y | y
      · rw [y] at ys
        exact absurd ys (by decide)
      · exact y.2.2
    have hn := h.1.ns hA
    have hnl := hA.2.2.2.1.2.1
    have em : (if nI (xNS A) < nI (xZ A s) then nI (xNS A) else nI (xZ A s)) = nI (min (xZ A s) (xNS A)) := by
      by_cases q : xNS A < xZ A s
      · rw [if_pos ((nI_ltI (by omega) (by omega)).mpr q), Nat.min_eq_right (by omega)]
      · rw [if_neg (fun z => q ((nI_ltI (by omega) (by omega)).mp z)), Nat.min_eq_left (by omega)]
    rw [q2, hz, hn]
    refine p_min ?_
    rw [em]
    have l1 : min (xZ A s) (xNS A) ≤ xZ A s := Nat.min_le_left _ _
    have l2 : min (xZ A s) (xNS A) ≤ xNS A := Nat.min_le_right _ _
    generalize min (xZ A s) (xNS A) = m at hQ l1 l2
    refine p_begin (by decide) ?_
    unfold w_X10_write_c71
    refine gl_up m (fun k q => ∃ v, q = (nI k, v) ∧ Fr PSh u v ∧ CI (wrm A s e k) v ∧ ek8 (v.1 30) (rn (xmv A) (A.1 53) e k)) 0 (by omega) ⟨_, rfl, Fr.rf.wA (fun _ => rfl), h.p30 (Fr.rf.wA (fun _ => rfl)), ?_⟩ ?_
    · rw [gg_wA_1]
      exact lt8 (h.1.2.1.2 5 (by decide)) (h.1.2.1.2 6 (by decide)) rfl rfl rfl rfl rfl rfl
    rintro k q hk ⟨v, rfl, hF, hI, hst⟩ kk hkk
    unfold b_X10_write_c71
    dsimp only
    rw [nI_leI (by omega) (by omega)]
    refine ⟨fun c3 => ?_, fun c3 => ?_⟩
    · obtain rfl : k = m := by omega
      exact hQ v (hF.mono PSh_C) hI
    · refine actAt_s (by omega) ?_
      have v13 : v.1 13 k = A.1 53 k := by rw [hF.i 13 (fun _ => rfl)]; exact (h.1.2.2.2.2.1.2 k (by omega)).1
      have v7 : ek7 (v.1 7) (xmv A) := by rw [hF.i 7 (fun _ => rfl)]; exact h.1.2.1.2
      obtain ⟨⟨a0, a9⟩, -⟩ := hA.2.2.2.1.2.2 k (by omega)
      rw [v13]
      refine p_does (by decide) a0 (by grind) ?_
      obtain ⟨g1, g2⟩ := dz_congr (mv := xmv A) hst (A.1 53 k)
      rw [(dz_mv v7 _).1, (dz_mv v7 _).2, g1]
      have hF1 : Fr P30 v (gg_wA v 30 (dz_n (xmv A) (v.1 30) (A.1 53 k))) := Fr.rf.wA (fun _ => rfl)
      have hI1 := hI.p30 hF1
      have hF2 : Fr PSh u (gg_wA v 30 (dz_n (xmv A) (v.1 30) (A.1 53 k))) := hF.wA (fun _ => rfl)
      have z1 : xZ (wrm A s e k) s = xZ A s := by unfold xZ; rw [wrm_o _ _ _ _ _ (by decide)]
      refine keep_s (A := wrm A s e k) hI1.1 hs (by rw [wrm_o _ _ _ _ _ (by decide)]; exact ys) (by rw [wrm_o _ _ _ _ _ (by decide), z1]; exact hz) (by omega) (by omega) ?_
      rw [nI_1]
      refine hkk (by omega) _ ⟨_, rfl, hF2.wI (by simp [PSh]; omega), CI.kp (wrm_WF hA s e k) hI1 _ hs (by omega), ?_⟩
      rw [gi_nt _ _ _ _ (by omega), gg_wA_1]
      exact g2
theorem r_write {A u : gg_M} {a b : Int32} {Q : Int32 → gg_M → Prop} (hA : WF A) (h : RI A u) (hQ : ∀ v, Fr PR u v → RI (n_write A a b) v → Q (m_write A a b) v) : w_X11_write a b u Q := by
  unfold w_X11_write w_X11_write_c14
  unfold n_write m_write at hQ
  have bad : ¬ ((0 ≤ a ∧ a < 32) ∧ 0 ≤ b ∧ b < 4) → Q (-2) u := fun z => by
    simp only [if_neg z] at hQ
    exact hQ u Fr.rf h
  refine isSet_s (fun c => t1 ?_) (fun c => t0 (bad fun z => c z.1))
  refine isSheet_s (fun c2 => y1 ?_) (fun c2 => y0 (bad fun z => c2 z.2))
  simp only [if_pos (And.intro c c2)] at hQ
  obtain ⟨e, he, rfl⟩ := rng 32 rfl (by decide) c
  obtain ⟨s, hs, rfl⟩ := rng 4 rfl (by decide) c2
  rw [nI_clamp (n := e) (by omega), nI_clamp (n := s) (by omega)] at hQ
  rw [nI_clamp (n := s) (by omega), h.e 60 s]
  refine ⟨vp_in_nI hs (by decide), fun ys => rmotor_s hA h fun w hF1 hI1 h49 => ?_, fun ys => meets_s h ?_⟩
  · simp only [if_neg ys] at hQ
    obtain ⟨hz, hzl⟩ : A.1 62 s = nI (xZ A s) ∧ xZ A s ≤ 48 := by
      rcases hA.2.2.2.2.2 s hs with y | y
      · exact absurd y ys
      · exact y.2.2
    have hnl := hA.2.2.2.1.2.1
    have hn := hA.2.2.2.1.1
    have hb : (256 : Int32) * 1 + 8 * nI e = nI (256 + 8 * e) := by rw [show (256 : Int32) * 1 = nI 256 from rfl, show (8 : Int32) = nI 8 from rfl, pk_mul, nI_add]
    refine begins_s (b := 256 + 8 * e) hb (by omega) fun st hst => ?_
    unfold w_X11_write_c46
    have e51 : ∀ (B v : gg_M) (f : Nat → Int32), RI B v → RI B (gg_wA v 51 f) := fun B v f hB => hB.fr (Fr.wA (P := fun t _ => t == 51) Fr.rf (fun _ => rfl)) (fun t j q => by simp [rc] at q; simp; omega)
    refine gl_up (min (xZ A s) (xNS A)) (fun k q => ∃ v, q = (nI k, v) ∧ Fr PR u v ∧ RI (wrm A s e k) v ∧ ek7 (v.1 49) (xmv A) ∧ ek8 (fun i => v.1 51 (256 + 8 * e + i)) (rn (xmv A) (A.1 53) e k)) 0 (by omega) ⟨_, rfl, (hF1.mono PMo_R).wA (fun _ => rfl), e51 A _ _ hI1, h49, fun i hi => ?_⟩ ?_
    · dsimp only
      rw [gg_wA_1, gp8_at _ _ _ hi, hst i hi, h49 5 (by decide), h49 6 (by decide)]
      exact lt8 (P := fun k => dz_mk (fun _ => 0) (xmv A 5) (xmv A 6) 0 0 0 0 (nI e) 0 k = rn (xmv A) (A.1 53) e 0 k) rfl rfl rfl rfl rfl rfl rfl rfl i hi
    rintro k q hk ⟨v, rfl, hF, hI, v49, V2⟩ kk hkk
    have l1 : min (xZ A s) (xNS A) ≤ xZ A s := Nat.min_le_left _ _
    have l2 : min (xZ A s) (xNS A) ≤ xNS A := Nat.min_le_right _ _
    unfold b_X11_write_c46 w_X11_write_c92
    dsimp only
    have v8 : v.1 1 8 = nI (xNS A) := by rw [hI.e 1 8, wrm_o _ _ _ _ _ (by decide)]; exact hn
    have v62 : v.1 62 s = nI (xZ A s) := by rw [hI.e 62 s, wrm_o _ _ _ _ _ (by decide)]; exact hz
    rw [v8, nI_clamp (n := s) (by omega), v62, nI_leI (by omega) (by omega), nI_leI (by omega) (by omega)]
    have dn : xNS A ≤ k ∨ xZ A s ≤ k → Q (nI k) v := fun z => by
      have : min (xZ A s) (xNS A) = k := by omega
      rw [this] at hQ
      exact hQ v hF hI
    refine ⟨fun c3 => dn (Or.inl c3), fun c3 => ⟨vp_in_nI hs (by decide), fun c4 => dn (Or.inr c4), fun c4 => ⟨vp_in_nI (by omega) (by decide), ?_⟩⟩⟩
    have v53 : v.1 53 k = A.1 53 k := by rw [hI.e 53 k, wrm_o _ _ _ _ _ (by decide)]
    obtain ⟨⟨a0, a9⟩, -⟩ := hA.2.2.2.1.2.2 k (by omega)
    rw [nI_clamp (by omega), v53]
    have hO1 : dz_O (xmv A) (rn (xmv A) (A.1 53) e k) := rn_O hA.M he k (fun j hj => (hA.2.2.2.1.2.2 j (by omega)).1)
    have hg : v = gg_wA v 51 (gp8 (v.1 51) (256 + 8 * e) (fun k => v.1 51 (256 + 8 * e + k))) := by rw [gp8_self, gm_self]
    rw [hg]
    refine p_mdoes (b := 256 + 8 * e) hb (by omega) (dz_M_mv (fun j hj => (v49 j hj).symm) hA.M) (dz_O_mv v49 (dz_O_congr V2.sy hO1)) a0 (by grind) ?_
    obtain ⟨g1, g2⟩ := dz_congr (mv := xmv A) V2 (A.1 53 k)
    rw [(dz_mv v49 _).1, (dz_mv v49 _).2, g1]
    have hR2 := e51 (wrm A s e k) v (gp8 (v.1 51) (256 + 8 * e) (dz_n (xmv A) (fun i => v.1 51 (256 + 8 * e + i)) (A.1 53 k))) hI
    refine mkeep_s hR2 hs (by omega) ?_
    rw [nI_1]
    refine hkk (by omega) _ ⟨_, rfl, (hF.wA (fun _ => rfl)).wI rfl, hR2.wI 63 _ _, ?_, fun i hi => ?_⟩
    · rw [gi_nt _ _ _ _ (by decide), gg_wA_n _ _ (by decide)]
      exact v49
    · dsimp only
      rw [gi_nt _ _ _ _ (by decide), gg_wA_1, gp8_at _ _ _ hi]
      exact g2 i hi
  · simp only [if_pos ys] at hQ
    exact hQ
