/-! items are copied -/
def hC (A : gg_M) (s t : Nat) (i j n : Int32) : Prop := (0 ≤ i ∧ 0 ≤ j ∧ 0 ≤ n) ∧ i.toNatClampNeg + n.toNatClampNeg ≤ xZ A s ∧ j.toNatClampNeg + n.toNatClampNeg ≤ xZ A t
def cpf (F : Nat → Int32) (p q n : Nat) : Nat → Int32 := fun x => if q ≤ x ∧ x < q + n then F (p + (x - q)) else F x
def cpy (A : gg_M) (s i t j n : Nat) : gg_M := gg_wA A 63 (cpf (A.1 63) (48 * s + i) (48 * t + j) n)
def cst (A : gg_M) (s t : Nat) (i j n : Int32) : Int32 := if A.1 60 s = 0 ∨ A.1 60 t = 0 then 1 else if A.1 61 s = A.1 61 t then (if (0 ≤ i ∧ 0 ≤ j ∧ 0 ≤ n) ∧ i.toNatClampNeg + n.toNatClampNeg ≤ xZ A s ∧ j.toNatClampNeg + n.toNatClampNeg ≤ xZ A t then 0 else 2) else 4
def n_copy (A : gg_M) (a i b j n : Int32) : gg_M := if (0 ≤ a ∧ a < 4) ∧ 0 ≤ b ∧ b < 4 then (if cst A a.toNatClampNeg b.toNatClampNeg i j n = 0 then cpy A a.toNatClampNeg i.toNatClampNeg b.toNatClampNeg j.toNatClampNeg n.toNatClampNeg else fd A (cst A a.toNatClampNeg b.toNatClampNeg i j n)) else A
def m_copy (A : gg_M) (a i b j n : Int32) : Int32 := if (0 ≤ a ∧ a < 4) ∧ 0 ≤ b ∧ b < 4 then (if cst A a.toNatClampNeg b.toNatClampNeg i j n = 0 then 1 else -10 - cst A a.toNatClampNeg b.toNatClampNeg i j n) else -2
theorem w_copy {A : gg_M} {a i b j n : Int32} (hA : WF A) : WF (n_copy A a i b j n) := by
  unfold n_copy
  split
  · split
    · exact hA
    · exact hA.fd _
  · exact hA
theorem holds_s {A u : gg_M} {s : Nat} {i n : Int32} {Q : Int32 → gg_M → Prop} (hA : WF A) (h : CC A u) (hs : s < 4) (hy : A.1 60 s = 1) (h1 : (0 ≤ i ∧ 0 ≤ n) ∧ i.toNatClampNeg + n.toNatClampNeg ≤ xZ A s → Q 1 u) (h0 : ¬ ((0 ≤ i ∧ 0 ≤ n) ∧ i.toNatClampNeg + n.toNatClampNeg ≤ xZ A s) → Q 0 u) : w_X6_holds (39 + s) i n u Q := by
  unfold w_X6_holds w_X6_holds_c30 w_X6_holds_c31
  obtain ⟨q1, q2, q3⟩ := (h.2.2.2.2.2.2.1 s hs).2 hy
  obtain ⟨hz, hzl⟩ : A.1 62 s = nI (xZ A s) ∧ xZ A s ≤ 48 := by
    rcases hA.2.2.2.2.2 s hs with y | y
    · rw [y] at hy
      exact absurd hy (by decide)
    · exact y.2.2
  rw [q2, hz]
  have bad : ¬ ((0 ≤ i ∧ 0 ≤ n) ∧ i.toNatClampNeg + n.toNatClampNeg ≤ xZ A s) → ((0 : Int32) = 0 ∨ (0 : Int32) = 1) ∧ Q 0 u := fun z => ⟨Or.inl rfl, h0 z⟩
  refine ⟨fun c => bad (fun z => by have := z.1.1; grind), fun c => ?_⟩
  obtain ⟨x, hx, rfl⟩ := nI_of c
  rw [nI_clamp hx] at h1 h0 bad
  rw [nI_ltI (by omega) hx]
  refine ⟨fun c2 => bad (fun z => by omega), fun c2 => ⟨fun c3 => bad (fun z => by have := z.1.2; grind), fun c3 => ?_⟩⟩
  obtain ⟨y, hy, rfl⟩ := nI_of c3
  rw [nI_clamp hy] at h1 h0 bad
  rw [pk_sub (by omega), nI_ltI (by omega) hy]
  exact ⟨fun c4 => bad (fun z => by omega), fun c4 => ⟨Or.inr rfl, h1 ⟨⟨nI_pos' hx, nI_pos' hy⟩, by omega⟩⟩⟩
theorem c_copy {A u : gg_M} {a i b j n : Int32} {Q : Int32 → gg_M → Prop} (hA : WF A) (h : CI A u) (hQ : ∀ v, Fr PC u v → CI (n_copy A a i b j n) v → Q (m_copy A a i b j n) v) : w_X10_copy a i b j n u Q := by
  unfold w_X10_copy w_X10_copy_c16 w_X10_copy_c51 w_X10_copy_c99
  unfold n_copy m_copy at hQ
  have bad : ¬ ((0 ≤ a ∧ a < 4) ∧ 0 ≤ b ∧ b < 4) → Q (-2) u := fun z => by
    simp only [if_neg z] at hQ
    exact hQ u Fr.rf h
  refine isB_s (fun c => t1 ?_) (fun c => t0 (bad fun z => c z.1))
  refine isB_s (fun c2 => y1 ?_) (fun c2 => y0 (bad fun z => c2 z.2))
  simp only [if_pos (And.intro c c2)] at hQ
  obtain ⟨s, hs, rfl⟩ := rng 4 rfl (by decide) c
  obtain ⟨t, ht, rfl⟩ := rng 4 rfl (by decide) c2
  rw [nI_clamp (n := s) (by omega), nI_clamp (n := t) (by omega)] at hQ
  rw [nI_clamp (n := s) (by omega), nI_clamp (n := t) (by omega)]
  obtain ⟨r1, r2, r3⟩ := sh_rf s hs
  obtain ⟨p1, p2, p3⟩ := sh_rf t ht
  rw [r1, p1, r2, p2, r3, p3]
  have fnd : ∀ k : Int32, k ≠ 0 → cst A s t i j n = k → w_X10_found k u (fun v2 u1 => Q v2 u1) := by
    intro k hk0 hk
    rw [hk] at hQ
    simp only [if_neg hk0] at hQ
    exact found_s h hQ
  refine ⟨vp_in_nI hs (by decide), vp_in_nI ht (by decide), isLost_s hA h.1 hs (fun ys => y1 (fnd 1 (by decide) ?_)) (fun ys => y0 (isLost_s hA h.1 ht (fun yt => t1 (fnd 1 (by decide) ?_)) (fun yt => t0 ?_)))⟩
  · unfold cst
    rw [if_pos (Or.inl ys)]
  · unfold cst
    rw [if_pos (Or.inr yt)]
  · obtain ⟨s1, s2, s3⟩ := (h.1.2.2.2.2.2.2.1 s hs).2 ys
    obtain ⟨u1, u2, u3⟩ := (h.1.2.2.2.2.2.2.1 t ht).2 yt
    have hns : ¬ (A.1 60 s = 0 ∨ A.1 60 t = 0) := fun z => by
      rcases z with z | z
      · rw [ys] at z; exact absurd z (by decide)
      · rw [yt] at z; exact absurd z (by decide)
    have hzs : xZ A s ≤ 48 := by
      rcases hA.2.2.2.2.2 s hs with y | y
      · exact absurd (Or.inl y) hns
      · exact y.2.2.2
    have hzt : xZ A t ≤ 48 := by
      rcases hA.2.2.2.2.2 t ht with y | y
      · exact absurd (Or.inr y) hns
      · exact y.2.2.2
    rw [s1, u1]
    refine ⟨fun c3 => ?_, fun c3 => fnd 4 (by decide) ?_⟩
    · have n2 : ¬ ((0 ≤ i ∧ 0 ≤ j ∧ 0 ≤ n) ∧ i.toNatClampNeg + n.toNatClampNeg ≤ xZ A s ∧ j.toNatClampNeg + n.toNatClampNeg ≤ xZ A t) → cst A s t i j n = 2 := fun z => by
        unfold cst
        rw [if_neg hns, if_pos c3, if_neg z]
      refine holds_s hA h.1 hs ys (fun q1 => t1 (holds_s hA h.1 ht yt (fun q2 => y1 ?_) (fun q2 => y0 (fnd 2 (by decide) (n2 fun z => q2 ⟨⟨z.1.2.1, z.1.2.2⟩, z.2.2⟩))))) (fun q1 => t0 (fnd 2 (by decide) (n2 fun z => q1 ⟨⟨z.1.1, z.1.2.2⟩, z.2.1⟩)))
      have e0 : cst A s t i j n = 0 := by
        unfold cst
        rw [if_neg hns, if_pos c3, if_pos ⟨⟨q1.1.1, q2.1.1, q1.1.2⟩, q1.2, q2.2⟩]
      rw [e0] at hQ
      simp only [if_true] at hQ
      have l1 := q1.2
      have l2 := q2.2
      refine ⟨by have := q1.1.1; grind, by have := q2.1.1; grind, by have := q1.1.2; grind, by omega, by omega, ?_⟩
      rintro _ rfl
      have hF : Fr PSh u (gg_wA u (43 + t) (va_cpy (u.1 (43 + s)) (u.1 (43 + t)) i.toNatClampNeg j.toNatClampNeg n.toNatClampNeg)) := Fr.rf.wA (fun _ => by simp [PSh]; omega)
      refine hQ _ (hF.mono PSh_C) (CI_sh h hF (fun x _ h2 => gg_wA_n _ _ (by omega)) rfl rfl (fun x hx => ?_) ?_)
      · obtain ⟨h1, h2⟩ := h.1.2.2.2.2.2.2.1 x hx
        rw [gg_wA_n _ _ (show 39 + x ≠ 43 + t by omega)]
        refine ⟨h1, fun z => ⟨(h2 z).1, (h2 z).2.1, fun k hk => ?_⟩⟩
        have hk : k < xZ A x := hk
        have z : A.1 60 x = 1 := z
        have hzx : xZ A x ≤ 48 := by
          rcases hA.2.2.2.2.2 x hx with y | y
          · rw [y] at z
            exact absurd z (by decide)
          · exact y.2.2.2
        show _ = cpf (A.1 63) (48 * s + i.toNatClampNeg) (48 * t + j.toNatClampNeg) n.toNatClampNeg (48 * x + k)
        unfold cpf
        by_cases ex : x = t
        · subst ex
          rw [gg_wA_1]
          by_cases q : j.toNatClampNeg ≤ k ∧ k < j.toNatClampNeg + n.toNatClampNeg
          · rw [pk_cpy_in q.1 q.2, if_pos ⟨by omega, by omega⟩, s3 _ (by omega)]
            rw [show 48 * s + (i.toNatClampNeg + (k - j.toNatClampNeg)) = 48 * s + i.toNatClampNeg + (48 * x + k - (48 * x + j.toNatClampNeg)) by omega]
          · rw [pk_cpy_out (by omega), if_neg (by omega)]
            exact u3 k hk
        · rw [gg_wA_n _ _ (by omega), if_neg (by omega)]
          exact (h2 z).2.2 k hk
      · show _ = A.1 1 24
        rw [gg_wA_n _ _ (by omega)]
        exact h.1.2.2.2.2.2.2.2
    · unfold cst
      rw [if_neg hns, if_neg c3]
