theorem lg_gt {a b : Nat} (ha : a < 2 ^ 62) (hb : b < 2 ^ 62) : 0 < lg_cmp (lN a) (lN b) ↔ b < a := by
  have h := lg_le ha hb
  constructor
  · intro z
    refine Nat.lt_of_not_le fun q => ?_
    have := h.mpr q
    grind
  · intro z
    have : ¬ lg_cmp (lN a) (lN b) ≤ 0 := fun q => by
      have := h.mp q
      omega
    grind
theorem r_copy {A u : gg_M} {a i b j n : Int32} {Q : Int32 → gg_M → Prop} (hA : WF A) (h : RI A u) (hQ : ∀ v, Fr PR u v → RI (n_copy A a i b j n) v → Q (m_copy A a i b j n) v) : w_X11_copy a i b j n u Q := by
  unfold w_X11_copy w_X11_copy_c14 w_X11_copy_c35 w_X11_copy_c111
  unfold n_copy m_copy at hQ
  have bad : ¬ ((0 ≤ a ∧ a < 4) ∧ 0 ≤ b ∧ b < 4) → Q (-2) u := fun z => by
    simp only [if_neg z] at hQ
    exact hQ u Fr.rf h
  refine isSheet_s (fun c => t1 ?_) (fun c => t0 (bad fun z => c z.1))
  refine isSheet_s (fun c2 => y1 ?_) (fun c2 => y0 (bad fun z => c2 z.2))
  simp only [if_pos (And.intro c c2)] at hQ
  obtain ⟨s, hs, rfl⟩ := rng 4 rfl (by decide) c
  obtain ⟨t, ht, rfl⟩ := rng 4 rfl (by decide) c2
  rw [nI_clamp (n := s) (by omega), nI_clamp (n := t) (by omega)] at hQ
  rw [nI_clamp (n := s) (by omega), nI_clamp (n := t) (by omega), h.e 60 s, h.e 60 t, h.e 61 s, h.e 61 t, h.e 62 s, h.e 62 t]
  have fnd : ∀ k : Int32, k ≠ 0 → cst A s t i j n = k → w_X11_meets k u (fun v2 u1 => Q v2 u1) := by
    intro k hk0 hk
    rw [hk] at hQ
    simp only [if_neg hk0] at hQ
    exact meets_s h hQ
  have vs : vp_in (nI s) 4 := vp_in_nI hs (by decide)
  have vt : vp_in (nI t) 4 := vp_in_nI ht (by decide)
  refine ⟨vs, fun ys => fnd 1 (by decide) ?_, fun ys => ⟨vt, fun yt => ⟨vs, vt, fun c3 => ?_, fun c3 => fnd 4 (by decide) ?_⟩, fun yt => fnd 1 (by decide) ?_⟩⟩
  · unfold cst
    rw [if_pos (Or.inl ys)]
  · have hns : ¬ (A.1 60 s = 0 ∨ A.1 60 t = 0) := fun z => by
      rcases z with z | z
      · exact ys z
      · exact yt z
    obtain ⟨zs, hzs⟩ : A.1 62 s = nI (xZ A s) ∧ xZ A s ≤ 48 := by
      rcases hA.2.2.2.2.2 s hs with y | y
      · exact absurd (Or.inl y) hns
      · exact y.2.2
    obtain ⟨zt, hzt⟩ : A.1 62 t = nI (xZ A t) ∧ xZ A t ≤ 48 := by
      rcases hA.2.2.2.2.2 t ht with y | y
      · exact absurd (Or.inr y) hns
      · exact y.2.2
    have n2 : ¬ ((0 ≤ i ∧ 0 ≤ j ∧ 0 ≤ n) ∧ i.toNatClampNeg + n.toNatClampNeg ≤ xZ A s ∧ j.toNatClampNeg + n.toNatClampNeg ≤ xZ A t) → cst A s t i j n = 2 := fun z => by
      unfold cst
      rw [if_neg hns, if_pos c3, if_neg z]
    refine ⟨fun q1 => fnd 2 (by decide) (n2 fun z => by have := z.1.1; grind), fun q1 => ⟨fun q2 => fnd 2 (by decide) (n2 fun z => by have := z.1.2.1; grind), fun q2 => ⟨fun q3 => fnd 2 (by decide) (n2 fun z => by have := z.1.2.2; grind), fun q3 => ⟨vs, ?_⟩⟩⟩⟩
    obtain ⟨x, hx, rfl⟩ := nI_of q1
    obtain ⟨y, hy, rfl⟩ := nI_of q2
    obtain ⟨m, hm, rfl⟩ := nI_of q3
    rw [nI_clamp hx, nI_clamp hy, nI_clamp hm] at n2 hQ
    rw [zs, zt, nI_l hx, nI_l hm, nI_l hy, nI_l (n := xZ A s) (by omega), nI_l (n := xZ A t) (by omega), lN_add, lN_add, lg_gt (by omega) (by omega), lg_le (by omega) (by omega)]
    refine ⟨fun q4 => fnd 2 (by decide) (n2 fun z => by omega), fun q4 => ⟨vt, fun q5 => ?_, fun q5 => fnd 2 (by decide) (n2 fun z => by omega)⟩⟩
    have e0 : cst A s t (nI x) (nI y) (nI m) = 0 := by
      unfold cst
      rw [nI_clamp hx, nI_clamp hy, nI_clamp hm, if_neg hns, if_pos c3, if_pos ⟨⟨nI_pos' hx, nI_pos' hy, nI_pos' hm⟩, by omega, q5⟩]
    rw [e0] at hQ
    simp only [if_true] at hQ
    have e63 : u.1 63 = A.1 63 := funext fun k => h.e 63 k
    unfold w_X11_copy_c120
    refine gl_up m (fun k q => ∃ f : Nat → Int32, q = (nI k, gg_wA u 64 f) ∧ ∀ l, l < k → f l = A.1 63 (48 * s + x + l)) 0 (by omega) ⟨u.1 64, by rw [gm_self]; rfl, fun l hl => absurd hl (by omega)⟩ ?_
    rintro k q hk ⟨f, rfl, hf⟩ kk hkk
    unfold b_X11_copy_c120
    dsimp only
    rw [nI_leI (by omega) (by omega)]
    refine ⟨fun c5 => ?_, fun c5 => ?_⟩
    · obtain rfl : k = m := by omega
      unfold w_X11_copy_c157
      have hR : RI A (gg_wA u 64 f) := h.fr (Fr.wA (P := fun t _ => t == 64) Fr.rf (fun _ => rfl)) (fun t j q => by simp [rc] at q; simp; omega)
      refine gl_up k (fun l q => q = (nI l, gg_wA (gg_wA u 64 f) 63 (cpf (A.1 63) (48 * s + x) (48 * t + y) l))) 0 (by omega) ?_ ?_
      · congr 1
        rw [show cpf (A.1 63) (48 * s + x) (48 * t + y) 0 = (gg_wA u 64 f).1 63 from ?_, gm_self]
        rw [gg_wA_n _ _ (by decide), e63]
        funext l
        unfold cpf
        rw [if_neg (by omega)]
      rintro l q hl rfl kl hkl
      unfold b_X11_copy_c157
      dsimp only
      rw [nI_leI (by omega) (by omega)]
      refine ⟨fun c6 => ?_, fun c6 => ?_⟩
      · obtain rfl : l = k := by omega
        exact hQ _ ((Fr.rf.wA (fun _ => rfl)).wA (fun _ => rfl)) (hR.wA 63 _)
      · have e : (48 : Int32) * nI t + nI y + nI l = nI (48 * t + y + l) := by rw [show (48 : Int32) = nI 48 from rfl, pk_mul, nI_add, nI_add]
        rw [e, nI_clamp (n := l) (by omega), nI_clamp (by omega), nI_1]
        refine ⟨vp_in_nI (by omega) (by decide), vp_in_nI (by omega) (by decide), ?_⟩
        rintro _ rfl
        refine hkl (by omega) _ ?_
        rw [gg_wA_n _ _ (show (64 : Nat) ≠ 63 by decide), gg_wA_1, gm_I, gm_AA, gg_wA_1, hf l (by omega)]
        congr 2
        funext z
        unfold cpf
        by_cases ez : z = 48 * t + y + l
        · subst ez
          rw [upd_self, if_pos ⟨by omega, by omega⟩, show 48 * t + y + l - (48 * t + y) = l by omega]
        · rw [upd_ne _ _ ez]
          by_cases q : 48 * t + y ≤ z ∧ z < 48 * t + y + l
          · rw [if_pos q, if_pos ⟨by omega, by omega⟩]
          · rw [if_neg q, if_neg (by omega)]
    · have e : (48 : Int32) * nI s + nI x + nI k = nI (48 * s + x + k) := by rw [show (48 : Int32) = nI 48 from rfl, pk_mul, nI_add, nI_add]
      rw [e, nI_clamp (n := k) (by omega), nI_clamp (by omega), nI_1]
      refine ⟨vp_in_nI (by omega) (by decide), vp_in_nI (by omega) (by decide), ?_⟩
      rintro _ rfl
      refine hkk (by omega) _ ⟨upd f k (A.1 63 (48 * s + x + k)), ?_, fun l hl => ?_⟩
      · rw [gg_wA_n _ _ (show (63 : Nat) ≠ 64 by decide), gm_I, gm_AA, gg_wA_1, e63]
      · by_cases el : l = k
        · subst el
          rw [upd_self]
        · rw [upd_ne _ _ el]
          exact hf l (by omega)
  · unfold cst
    rw [if_neg (fun z => by rcases z with z | z; exact ys z; exact yt z), if_neg c3]
  · unfold cst
    rw [if_pos (Or.inr yt)]
