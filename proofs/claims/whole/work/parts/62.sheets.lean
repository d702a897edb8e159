/-! sheets -/
theorem sh_rf : ∀ s, s < 4 → gg_rf 38 s = 39 + s ∧ gg_rf (39 + s) 0 = 43 + s ∧ gg_al (43 + s) = 48 := by decide +kernel
def PSh (t _j : Nat) : Bool := (decide (39 ≤ t) && decide (t ≤ 46)) || t == 0 || t == 30
theorem PSh_C (t j : Nat) (h : PC t j = false) : PSh t j = false := by
  simp [PC] at h
  simp [PSh]
  omega
theorem CI_sh {A B u v : gg_M} (h : CI A u) (hF : Fr PSh u v) (e : ∀ t, t ≠ 1 → (t < 60 ∨ 63 < t) → B.1 t = A.1 t) (e8 : B.1 1 8 = A.1 1 8) (e15 : B.1 1 15 = A.1 1 15) (hH : CH B v) (hFi : CF B v) : CI B v := by
  obtain ⟨⟨ct, cm, cp, ca, cs, cn, ch, cf⟩, kb, kt, kl⟩ := h
  have q : ∀ t, t ≠ 0 → t ≠ 30 → (t < 39 ∨ 46 < t) → v.1 t = u.1 t := fun t h1 h2 h3 => hF.i t (fun j => by simp [PSh]; omega)
  have q2 : ∀ t, t ≠ 0 → t ≠ 30 → (t < 39 ∨ 46 < t) → v.2 t = u.2 t := fun t h1 h2 h3 => hF.l t (fun j => by simp [PSh]; omega)
  have f : ∀ t, t ≠ 1 → (t < 60 ∨ 63 < t) → B.1 t = A.1 t := e
  have e47 := f 47 (by decide) (by decide)
  have e48 := f 48 (by decide) (by decide)
  have b0 : xb0 B = xb0 A := funext fun j => by unfold xb0; rw [e47]
  have b1 : xb1 B = xb1 A := funext fun j => by unfold xb1; rw [e47]
  have e480 : B.1 48 0 = A.1 48 0 := by rw [e48]
  have e481 : B.1 48 1 = A.1 48 1 := by rw [e48]
  have b0p : ∀ j, j < xT0 A → xb0 B j = xb0 A j := fun j _ => by rw [b0]
  refine ⟨⟨ct.tr e480 b0p e481 b1 (q 2 (by decide) (by decide) (by decide)) (q 3 (by decide) (by decide) (by decide)) (q 4 (by decide) (by decide) (by decide)) (q 5 (by decide) (by decide) (by decide)),
    cm.tr e480 b0p (q 6 (by decide) (by decide) (by decide)) (q 7 (by decide) (by decide) (by decide)), cp.tr e481 b1 (q 8 (by decide) (by decide) (by decide)) (q 9 (by decide) (by decide) (by decide)),
    ca.tr (f 52 (by decide) (by decide)) (q 11 (by decide) (by decide) (by decide)), cs.tr e8 (f 53 (by decide) (by decide)) (f 54 (by decide) (by decide)) (q 12 (by decide) (by decide) (by decide)) (q 13 (by decide) (by decide) (by decide)) (q 14 (by decide) (by decide) (by decide)),
    cn.tr e15 (f 57 (by decide) (by decide)) (f 58 (by decide) (by decide)) (f 59 (by decide) (by decide)) (congrFun (q 33 (by decide) (by decide) (by decide)) 5) (q 34 (by decide) (by decide) (by decide)) (q 35 (by decide) (by decide) (by decide)) (q 36 (by decide) (by decide) (by decide)), hH, hFi⟩,
    kb.tr (xmv_e e480 b0p) (f 52 (by decide) (by decide)) (f 53 (by decide) (by decide)) (f 54 (by decide) (by decide)) e8 (q 15 (by decide) (by decide) (by decide)) (q2 16 (by decide) (by decide) (by decide)) (q 17 (by decide) (by decide) (by decide)) (q 26 (by decide) (by decide) (by decide)) (q 27 (by decide) (by decide) (by decide)),
    kt.tr (xmv_e e480 b0p) (xha_e e481 b1) (xhn_e e481 b1) (q 31 (by decide) (by decide) (by decide)) (q 32 (by decide) (by decide) (by decide)),
    kl.tr (f 57 (by decide) (by decide)) (f 58 (by decide) (by decide)) (f 59 (by decide) (by decide)) e15 (congrFun (q 33 (by decide) (by decide) (by decide)) 4) (q 37 (by decide) (by decide) (by decide))⟩
def okH (A : gg_M) (s : Nat) : Prop := A.1 60 s = 0 ∨ (A.1 60 s = 1 ∧ (0 ≤ A.1 61 s ∧ A.1 61 s ≤ 2) ∧ A.1 62 s = nI (xZ A s) ∧ xZ A s ≤ 48)
theorem WF_sh {A B : gg_M} (h : WF A) (e : ∀ t, t ≠ 1 → (t < 60 ∨ 63 < t) → B.1 t = A.1 t) (e8 : B.1 1 8 = A.1 1 8) (e15 : B.1 1 15 = A.1 1 15) (hH : ∀ s, s < 4 → okH B s) : WF B := by
  obtain ⟨w0, w1, w2, w3, w4, w5⟩ := h
  have e48 := e 48 (by decide) (by decide)
  have e480 : B.1 48 0 = A.1 48 0 := by rw [e48]
  have e481 : B.1 48 1 = A.1 48 1 := by rw [e48]
  refine ⟨?_, ?_, ?_, ?_, ?_, hH⟩
  · rw [xT0_e e480, e480]; exact w0
  · rw [xT1_e e481, e481]; exact w1
  · rw [e 52 (by decide) (by decide)]; exact w2
  · rw [xNS_e e8, e8, e 53 (by decide) (by decide), e 54 (by decide) (by decide)]; exact w3
  · rw [xNM_e e15, e15, e 57 (by decide) (by decide), e 58 (by decide) (by decide), e 59 (by decide) (by decide)]; exact w4
/-! findings -/
def fd (A : gg_M) (c : Int32) : gg_M := gg_wI A 1 24 c
theorem WF.fd {A : gg_M} (h : WF A) (c : Int32) : WF (fd A c) := h
theorem CI.fd {A u : gg_M} (h : CI A u) (c : Int32) : CI (fd A c) (gg_wI u 0 11 c) :=
  CI_sh h (Fr.rf.wI rfl) (fun t h1 _ => gi_nt _ _ _ _ h1) rfl rfl (h.1.2.2.2.2.2.2.1.tr rfl rfl rfl rfl (h4c rfl rfl rfl rfl) (h4c rfl rfl rfl rfl)) rfl
theorem found_s {A u : gg_M} {c : Int32} {Q : Int32 → gg_M → Prop} (h : CI A u) (hQ : ∀ v, Fr PC u v → CI (fd A c) v → Q (-10 - c) v) : w_X10_found c u Q := by
  unfold w_X10_found
  rintro _ rfl
  exact hQ _ (Fr.rf.wI rfl) (h.fd c)
theorem meets_s {A u : gg_M} {c : Int32} {Q : Int32 → gg_M → Prop} (h : RI A u) (hQ : ∀ v, Fr PR u v → RI (fd A c) v → Q (-10 - c) v) : w_X11_meets c u Q := by
  unfold w_X11_meets
  rintro _ rfl
  exact hQ _ (Fr.rf.wI rfl) (h.wI 1 24 c)
/-! a sheet is laid -/
def z63 (F : Nat → Int32) (s : Nat) : Nat → Int32 := fun j => if 48 * s ≤ j ∧ j < 48 * s + 48 then 0 else F j
def shl (A : gg_M) (s : Nat) (f n : Int32) : gg_M := gg_wA (gg_wI (gg_wI (gg_wI A 60 s 1) 61 s f) 62 s n) 63 (z63 (A.1 63) s)
def n_sheet (A : gg_M) (a f n : Int32) : gg_M := if (0 ≤ a ∧ a < 4) ∧ (0 ≤ f ∧ f < 3) ∧ n ≤ 48 then (if 0 ≤ n then shl A a.toNatClampNeg f n else fd A 5) else A
def m_sheet (a f n : Int32) : Int32 := if (0 ≤ a ∧ a < 4) ∧ (0 ≤ f ∧ f < 3) ∧ n ≤ 48 then (if 0 ≤ n then n else -10 - 5) else -2
theorem shl_o (A : gg_M) (s : Nat) (f n : Int32) (t : Nat) (h : t < 60 ∨ 63 < t) : (shl A s f n).1 t = A.1 t := by
  unfold shl
  rw [gg_wA_n _ _ (by omega), gi_nt _ _ _ _ (by omega), gi_nt _ _ _ _ (by omega), gi_nt _ _ _ _ (by omega)]
theorem shl_60 (A : gg_M) (s : Nat) (f n : Int32) : (shl A s f n).1 60 = upd (A.1 60) s 1 ∧ (shl A s f n).1 61 = upd (A.1 61) s f ∧ (shl A s f n).1 62 = upd (A.1 62) s n ∧ (shl A s f n).1 63 = z63 (A.1 63) s := ⟨rfl, rfl, rfl, rfl⟩
theorem w_sheet {A : gg_M} {a f n : Int32} (hA : WF A) : WF (n_sheet A a f n) := by
  unfold n_sheet
  split
  · rename_i c
    split
    · rename_i c0
      obtain ⟨e60, e61, e62, e63⟩ := shl_60 A a.toNatClampNeg f n
      refine WF_sh hA (fun t _ h2 => shl_o _ _ _ _ _ h2) (by rw [shl_o _ _ _ _ _ (by decide)]) (by rw [shl_o _ _ _ _ _ (by decide)]) fun s hs => ?_
      unfold okH xZ
      rw [e60, e61, e62]
      by_cases es : s = a.toNatClampNeg
      · rw [es, upd_self, upd_self, upd_self]
        obtain ⟨k, hk, rfl⟩ := rng (a := n) (b := 49) 49 rfl (by decide) ⟨c0, by have := c.2.2; grind⟩
        rw [nI_clamp (by omega)]
        exact Or.inr ⟨rfl, ⟨c.2.1.1, by have := c.2.1.2; grind⟩, rfl, by omega⟩
      · rw [upd_ne _ _ es, upd_ne _ _ es, upd_ne _ _ es]
        exact hA.2.2.2.2.2 s hs
    · exact hA.fd 5
  · exact hA
theorem c_sheet {A u : gg_M} {a f n : Int32} {Q : Int32 → gg_M → Prop} (hA : WF A) (h : CI A u) (hQ : ∀ v, Fr PC u v → CI (n_sheet A a f n) v → Q (m_sheet a f n) v) : w_X10_sheet a f n u Q := by
  unfold w_X10_sheet w_X10_sheet_c22
  unfold n_sheet m_sheet at hQ
  have bad : ¬ ((0 ≤ a ∧ a < 4) ∧ (0 ≤ f ∧ f < 3) ∧ n ≤ 48) → Q (-2) u := fun z => by
    simp only [if_neg z] at hQ
    exact hQ u Fr.rf h
  refine isB_s (fun c => t1 ?_) (fun c => t0 (bad fun z => c z.1))
  refine isB_s (fun c2 => t1 ?_) (fun c2 => t0 (bad fun z => c2 z.2.1))
  refine ⟨fun c3 => ?_, fun c3 => bad fun z => c3 z.2.2⟩
  simp only [if_pos (And.intro c (And.intro c2 c3))] at hQ
  refine ⟨fun c4 => ?_, fun c4 => found_s h ?_⟩
  · simp only [if_pos c4] at hQ
    obtain ⟨s, hs, rfl⟩ := rng 4 rfl (by decide) c
    obtain ⟨k, hk, rfl⟩ := rng (a := n) (b := 49) 49 rfl (by decide) ⟨c4, by grind⟩
    rw [nI_clamp (by omega)] at hQ ⊢
    obtain ⟨r1, r2, r3⟩ := sh_rf s hs
    refine ⟨vp_in_nI hs (by decide), ?_⟩
    unfold w_X6_lay
    rw [r1, r2]
    refine fill_s (by rw [r3]; decide) fun g hg _ => ?_
    rw [r3] at hg
    rintro _ rfl _ rfl
    obtain ⟨e60, e61, e62, e63⟩ := shl_60 A s f (nI k)
    have hF : Fr PSh u (gg_wI (gg_wI (gg_wA u (43 + s) g) (39 + s) 1 f) (39 + s) 2 (nI k)) := ((Fr.rf.wA (fun _ => by simp [PSh]; omega)).wI (by simp [PSh]; omega)).wI (by simp [PSh]; omega)
    refine hQ _ (hF.mono PSh_C) (CI_sh h hF (fun t _ h2 => shl_o _ _ _ _ _ h2) (by rw [shl_o _ _ _ _ _ (by decide)]) (by rw [shl_o _ _ _ _ _ (by decide)]) (fun t ht => ?_) ?_)
    · unfold xZ
      rw [e60, e61, e62, e63]
      by_cases es : t = s
      · subst es
        rw [upd_self, upd_self, upd_self, nI_clamp (by omega)]
        refine ⟨fun z => absurd z (by decide), fun _ => ⟨?_, gi_eq _ _ _ _, fun i hi => ?_⟩⟩
        · rw [gi_ne _ _ _ _ (by decide), gi_eq]
        · rw [gi_nt _ _ _ _ (by omega), gi_nt _ _ _ _ (by omega), gg_wA_1, hg i (by omega)]
          unfold z63
          rw [if_pos ⟨by omega, by omega⟩]
      · rw [upd_ne _ _ es, upd_ne _ _ es, upd_ne _ _ es, gi_nt _ _ _ _ (by omega), gi_nt _ _ _ _ (by omega), gg_wA_n _ _ (by omega), gi_nt _ _ _ _ (show 43 + t ≠ 39 + s by omega), gi_nt _ _ _ _ (show 43 + t ≠ 39 + s by omega), gg_wA_n _ _ (show 43 + t ≠ 43 + s by omega)]
        obtain ⟨h1, h2⟩ := h.1.2.2.2.2.2.2.1 t ht
        refine ⟨h1, fun z => ⟨(h2 z).1, (h2 z).2.1, fun i hi => ?_⟩⟩
        rcases hA.2.2.2.2.2 t ht with y | y
        · rw [y] at z
          exact absurd z (by decide)
        · have hi : i < xZ A t := hi
          unfold z63
          rw [if_neg (by omega)]
          exact (h2 z).2.2 i hi
    · show _ = (shl A s f (nI k)).1 1 24
      rw [gi_nt _ _ _ _ (by omega), gi_nt _ _ _ _ (by omega), gg_wA_n _ _ (by omega), shl_o _ _ _ _ _ (by decide)]
      exact h.1.2.2.2.2.2.2.2
  · simp only [if_neg c4] at hQ
    exact hQ
