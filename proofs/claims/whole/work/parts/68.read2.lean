/-! a sheet is read -/
def rdm (s : Nat) : Nat → Nat → gg_M → Int32 × gg_M
  | 0, k, A => (nI k, A)
  | f + 1, k, A => if xZ A s ≤ 2 * k + 1 then (nI k, A) else if 0 ≤ m_see A (A.1 63 (48 * s + 2 * k)) (A.1 63 (48 * s + (2 * k + 1))) then rdm s f (k + 1) (n_see A (A.1 63 (48 * s + 2 * k)) (A.1 63 (48 * s + (2 * k + 1)))) else (nI k, n_see A (A.1 63 (48 * s + 2 * k)) (A.1 63 (48 * s + (2 * k + 1))))
def x_read (A : gg_M) (a : Int32) : Int32 × gg_M := if 0 ≤ a ∧ a < 4 then (if A.1 60 a.toNatClampNeg = 0 then (-10 - 1, fd A 1) else rdm a.toNatClampNeg 24 0 A) else (-2, A)
theorem see_o (A : gg_M) (a b : Int32) (t : Nat) (h : 60 ≤ t) : (n_see A a b).1 t = A.1 t := by
  unfold n_see
  split
  · split
    · rfl
    · rw [gi_nt _ _ _ _ (by omega), gi_nt _ _ _ _ (by omega), gi_nt _ _ _ _ (by omega)]
  · rfl
theorem rdm_WF {s : Nat} : ∀ f k A, WF A → WF (rdm s f k A).2
  | 0, _, _, h => h
  | f + 1, k, A, h => by
    unfold rdm
    split
    · exact h
    · split
      · exact rdm_WF f (k + 1) _ (w_see h)
      · exact w_see h
theorem w_read {A : gg_M} {a : Int32} (hA : WF A) : WF (x_read A a).2 := by
  unfold x_read
  split
  · split
    · exact hA.fd 1
    · exact rdm_WF _ _ _ hA
  · exact hA
theorem rdm_e {s f k : Nat} {A : gg_M} (h : ¬ xZ A s ≤ 2 * k + 1) : rdm s (f + 1) k A = if 0 ≤ m_see A (A.1 63 (48 * s + 2 * k)) (A.1 63 (48 * s + (2 * k + 1))) then rdm s f (k + 1) (n_see A (A.1 63 (48 * s + 2 * k)) (A.1 63 (48 * s + (2 * k + 1)))) else (nI k, n_see A (A.1 63 (48 * s + 2 * k)) (A.1 63 (48 * s + (2 * k + 1)))) := by
  rw [rdm, if_neg h]
theorem rdm_d {s f k : Nat} {A : gg_M} (h : xZ A s ≤ 2 * k + 1) : rdm s f k A = (nI k, A) := by
  cases f with
  | zero => rfl
  | succ f => rw [rdm, if_pos h]
theorem c_read {A u : gg_M} {a : Int32} {Q : Int32 → gg_M → Prop} (hA : WF A) (h : CI A u) (hQ : ∀ v, Fr PC u v → CI (x_read A a).2 v → Q (x_read A a).1 v) : w_X10_read a u Q := by
  unfold w_X10_read
  unfold x_read at hQ
  refine isB_s (fun c => y1 ?_) (fun c => y0 ?_)
  · simp only [if_pos c] at hQ
    obtain ⟨s, hs, rfl⟩ := rng 4 rfl (by decide) c
    rw [nI_clamp (by omega)] at hQ ⊢
    obtain ⟨r1, r2, r3⟩ := sh_rf s hs
    rw [r1]
    refine ⟨vp_in_nI hs (by decide), isLost_s hA h.1 hs (fun ys => t1 (found_s h ?_)) (fun ys => t0 ?_)⟩
    · simp only [if_pos ys] at hQ
      exact hQ
    · simp only [if_neg (show ¬ A.1 60 s = 0 by rw [ys]; decide)] at hQ
      unfold w_X10_read_c36
      refine gl_up 24 (fun k q => ∃ v B, q = (nI k, nI (2 * k), v) ∧ Fr PC u v ∧ WF B ∧ CI B v ∧ B.1 60 s = 1 ∧ rdm s 24 0 A = rdm s (24 - k) k B) 0 (by decide) ⟨u, A, rfl, Fr.rf, hA, h, ys, rfl⟩ ?_
      rintro k q hk ⟨v, B, rfl, hF, hB, hI, yB, hr⟩ kk hkk
      unfold b_X10_read_c36 w_X10_read_c80
      dsimp only
      obtain ⟨q1, q2, q3⟩ := (hI.1.2.2.2.2.2.2.1 s hs).2 yB
      obtain ⟨hz, hzl⟩ : B.1 62 s = nI (xZ B s) ∧ xZ B s ≤ 48 := by
        rcases hB.2.2.2.2.2 s hs with y | y
        · rw [y] at yB
          exact absurd yB (by decide)
        · exact y.2.2
      rw [q2, hz, nI_1, nI_leI (by omega) (by omega)]
      refine ⟨fun c2 => ?_, fun c2 => ?_⟩
      · rw [hr, rdm_d c2] at hQ
        exact hQ v hF hI
      · rw [show 24 - k = 23 - k + 1 by omega, rdm_e c2] at hr
        refine itemAt_s hI.1 hs yB hz hzl (by omega) (itemAt_s hI.1 hs yB hz hzl (by omega) ?_)
        refine c_see hB hI fun v1 hF1 hI1 => ⟨fun c3 => ?_, fun c3 => ?_⟩
        · rw [if_pos c3] at hr
          rw [nI_1, show (2 : Int32) = nI 2 from rfl, nI_add]
          refine hkk (by omega) _ ⟨v1, _, rfl, hF.tr hF1, w_see hB, hI1, ?_, ?_⟩
          · rw [see_o _ _ _ _ (by decide)]
            exact yB
          · rw [hr, show 24 - (k + 1) = 23 - k by omega]
        · rw [if_neg c3] at hr
          rw [hr] at hQ
          exact hQ v1 (hF.tr hF1) hI1
  · simp only [if_neg c] at hQ
    exact hQ u Fr.rf h
theorem r_read {A u : gg_M} {a : Int32} {Q : Int32 → gg_M → Prop} (hA : WF A) (h : RI A u) (hQ : ∀ v, Fr PR u v → RI (x_read A a).2 v → Q (x_read A a).1 v) : w_X11_read a u Q := by
  unfold w_X11_read
  unfold x_read at hQ
  refine isSheet_s (fun c => y1 ?_) (fun c => y0 ?_)
  · simp only [if_pos c] at hQ
    obtain ⟨s, hs, rfl⟩ := rng 4 rfl (by decide) c
    rw [nI_clamp (by omega)] at hQ ⊢
    rw [h.e 60 s]
    refine ⟨vp_in_nI hs (by decide), fun ys => ?_, fun ys => meets_s h ?_⟩
    · simp only [if_neg ys] at hQ
      unfold w_X11_read_c27
      refine gl_up 24 (fun k q => ∃ v B, q = (nI k, v) ∧ Fr PR u v ∧ WF B ∧ RI B v ∧ ¬ B.1 60 s = 0 ∧ rdm s 24 0 A = rdm s (24 - k) k B) 0 (by decide) ⟨u, A, rfl, Fr.rf, hA, h, ys, rfl⟩ ?_
      rintro k q hk ⟨v, B, rfl, hF, hB, hI, yB, hr⟩ kk hkk
      unfold b_X11_read_c27
      dsimp only
      obtain ⟨hz, hzl⟩ : B.1 62 s = nI (xZ B s) ∧ xZ B s ≤ 48 := by
        rcases hB.2.2.2.2.2 s hs with y | y
        · exact absurd y yB
        · exact y.2.2
      have e0 : (2 : Int32) * nI k = nI (2 * k) := by rw [show (2 : Int32) = nI 2 from rfl, pk_mul]
      have e1 : (48 : Int32) * nI s + nI (2 * k) = nI (48 * s + 2 * k) := by rw [show (48 : Int32) = nI 48 from rfl, pk_mul, nI_add]
      rw [nI_clamp (n := s) (by omega), hI.e 62 s, hz, e0, e1, nI_1, nI_1, nI_leI (by omega) (by omega)]
      refine ⟨vp_in_nI hs (by decide), fun c2 => ?_, fun c2 => ?_⟩
      · rw [hr, rdm_d c2] at hQ
        exact hQ v hF hI
      · rw [show 24 - k = 23 - k + 1 by omega, rdm_e c2] at hr
        refine ⟨vp_in_nI (by omega) (by decide), vp_in_nI (by omega) (by decide), ?_⟩
        rw [nI_clamp (by omega), nI_clamp (by omega), hI.e 63, hI.e 63, show 48 * s + 2 * k + 1 = 48 * s + (2 * k + 1) by omega]
        refine r_more hB hI fun v1 hF1 hI1 => ⟨fun c3 => ?_, fun c3 => ?_⟩
        · rw [if_pos c3] at hr
          rw [nI_1]
          refine hkk (by omega) _ ⟨v1, _, rfl, hF.tr hF1, w_see hB, hI1, ?_, ?_⟩
          · rw [see_o _ _ _ _ (by decide)]
            exact yB
          · rw [hr, show 24 - (k + 1) = 23 - k by omega]
        · rw [if_neg c3] at hr
          rw [hr] at hQ
          exact hQ v1 (hF.tr hF1) hI1
    · simp only [if_pos ys] at hQ
      exact hQ
  · simp only [if_neg c] at hQ
    exact hQ u Fr.rf h
