/-! Belief.learn -/
theorem actAt_s {k : Nat} {u : gg_M} {Q : Int32 → gg_M → Prop} (hk : k < 24) (h : Q (u.1 13 k) u) : w_X2_actAt (nI k) u Q := by
  unfold w_X2_actAt w_X2_actAt_c19
  refine p_X10_isBelow ?_
  rw [if_pos ⟨nI_pos' (by omega), (nI_ltI (b := 24) (by omega) (by decide)).mpr hk⟩, nI_clamp (by omega)]
  exact ⟨fun z => absurd z (by decide), fun _ => ⟨vp_in_nI hk (by decide), h⟩⟩
theorem signAt_s {k : Nat} {u : gg_M} {Q : Int32 → gg_M → Prop} (hk : k < 24) (h : Q (u.1 14 k) u) : w_X2_signAt (nI k) u Q := by
  unfold w_X2_signAt w_X2_signAt_c19
  refine p_X10_isBelow ?_
  rw [if_pos ⟨nI_pos' (by omega), (nI_ltI (b := 24) (by omega) (by decide)).mpr hk⟩, nI_clamp (by omega)]
  exact ⟨fun z => absurd z (by decide), fun _ => ⟨vp_in_nI hk (by decide), h⟩⟩
def anr (w : Nat → Nat) (r : Nat → Int32) : Nat → Bool
  | 0 => false
  | m + 1 => anr w r m || (decide (0 < w m) && decide (¬ r m = 0))
def b2i (b : Bool) : Int32 := if b then 1 else 0
theorem b2i_and (a b : Bool) : b2i a &&& b2i b = b2i (a && b) := by cases a <;> cases b <;> decide
theorem b2i_or (a b : Bool) : b2i a ||| b2i b = b2i (a || b) := by cases a <;> cases b <;> decide
theorem b2i_0 (b : Bool) : b2i b = 0 ↔ b = false := by cases b <;> decide
theorem learn_c39 {s ns : Nat} {a4 : Int32} {u : gg_M} {k16 : Int32 × Int32 × gg_M → Prop} {Q : gg_M → Prop} (hM : dz_M (u.1 7)) (hns : u.1 12 2 = nI ns) (hS : okS (u.1 13) (u.1 14) ns) (hs : s < 32)
    (h : ∀ st, ek8 st (rn (u.1 7) (u.1 13) s ns) → w_X1_learn_c94 a4 (nI s) (b2i (agb (u.1 7) (u.1 13) (u.1 14) s ns)) (gg_wA u 29 st) k16 Q) {st0 : Nat → Int32} (h0 : ek8 st0 (dz_0 (u.1 7) s)) :
    w_X1_learn_c39 a4 (nI s) 1 0 (gg_wA u 29 st0) k16 Q := by
  unfold w_X1_learn_c39
  refine gl_up ns (fun i q => ∃ st, q = (b2i (agb (u.1 7) (u.1 13) (u.1 14) s i), nI i, gg_wA u 29 st) ∧ ek8 st (rn (u.1 7) (u.1 13) s i)) 0 (by omega) ⟨st0, rfl, h0⟩ ?_
  rintro i q hi ⟨st, rfl, hst⟩ k hk
  unfold b_X1_learn_c39 w_X1_learn_c85
  dsimp only
  have n12 : ∀ f, (gg_wA u 29 f).1 12 = u.1 12 := fun f => gg_wA_n _ _ (by decide)
  have n13 : ∀ f, (gg_wA u 29 f).1 13 = u.1 13 := fun f => gg_wA_n _ _ (by decide)
  have n14 : ∀ f, (gg_wA u 29 f).1 14 = u.1 14 := fun f => gg_wA_n _ _ (by decide)
  have n7 : ∀ f, (gg_wA u 29 f).1 7 = u.1 7 := fun f => gg_wA_n _ _ (by decide)
  have h24 := hS.1
  rw [n12, hns]
  refine ⟨fun c => ?_, fun c => ⟨fun c2 => ?_, fun c2 => ?_⟩⟩
  · rw [nI_leI (by omega) (by omega)] at c
    obtain rfl : i = ns := by omega
    exact h st hst
  · have c2 : nI 24 ≤ nI i := c2
    rw [nI_leI (by omega) (by omega)] at c
    rw [nI_leI (by decide) (by omega)] at c2
    omega
  · rw [nI_leI (by omega) (by omega)] at c
    have hlt : i < ns := by omega
    obtain ⟨⟨l0, l1⟩, -⟩ := hS.2 i hlt
    refine actAt_s (by omega) ?_
    rw [n13]
    refine p_does (by decide) l0 (by grind) ?_
    rw [n7, gg_wA_1, gm_AA]
    obtain ⟨g1, g2⟩ := dz_congr (mv := u.1 7) hst (u.1 13 i)
    refine signAt_s (by omega) ?_
    rw [n14, g1, nI_1]
    have fin : ∀ z, z = b2i (decide (dz_s (u.1 7) (rn (u.1 7) (u.1 13) s i) (u.1 13 i) = u.1 14 i)) → ∀ v22, v22 = b2i (agb (u.1 7) (u.1 13) (u.1 14) s i) &&& z → k (v22, nI (i + 1), gg_wA u 29 (dz_n (u.1 7) st (u.1 13 i))) := by
      rintro z rfl v22 rfl
      rw [b2i_and]
      exact hk hlt _ ⟨_, rfl, g2⟩
    exact ⟨fun c3 => fin 0 (by rw [decide_eq_false c3]; rfl), fun c3 => fin 1 (by rw [decide_eq_true c3]; rfl)⟩
/-- what may change -/
def PLn (t _j : Nat) : Bool := t == 15 || t == 16 || t == 17 || t == 26 || t == 27 || t == 29
def BF (u v : gg_M) (ns m : Nat) : Prop :=
  (∀ s, s < m → v.2 16 s = pkS (rn (u.1 7) (u.1 13) s ns)) ∧ (∀ s, s < m → v.1 17 s = nI (wB (u.1 7) (u.1 11) (u.1 13) (u.1 14) ns s)) ∧
  (∀ s, s < 32 → bt (v.1 15 9) s = decide (s < m ∧ 0 < wB (u.1 7) (u.1 11) (u.1 13) (u.1 14) ns s)) ∧ v.1 15 10 = nI (fb_sm (wB (u.1 7) (u.1 11) (u.1 13) (u.1 14) ns) m)
theorem learn_s {ns : Nat} {u : gg_M} {Q : gg_M → Prop} (hM : dz_M (u.1 7)) (hA : okA (u.1 11)) (hns : u.1 12 2 = nI ns) (hS : okS (u.1 13) (u.1 14) ns)
    (h : ∀ v, Fr PLn u v → BF u v ns 32 → v.1 15 8 = 1 → (∀ k, k < 4 → v.1 26 k = if anr (wB (u.1 7) (u.1 11) (u.1 13) (u.1 14) ns) (fun s => rn (u.1 7) (u.1 13) s ns 7) 32 then 0 else -1) → (∀ k, k < 4 → v.1 27 k = v.1 15 10) → Q v) : w_X1_learn u Q := by
  unfold w_X1_learn
  rintro _ rfl _ rfl
  unfold w_X1_learn_c16
  have hwl : ∀ s, wB (u.1 7) (u.1 11) (u.1 13) (u.1 14) ns s ≤ 1048576 := fun s => wB_le hA
  have hsl : ∀ m, m ≤ 32 → fb_sm (wB (u.1 7) (u.1 11) (u.1 13) (u.1 14) ns) m ≤ 33554432 := fun m hm => Nat.le_trans (fb_sm_bound (fun k _ => hwl k)) (by omega)
  generalize hw : wB (u.1 7) (u.1 11) (u.1 13) (u.1 14) ns = w at *
  generalize hr : (fun s => rn (u.1 7) (u.1 13) s ns 7) = r at *
  refine gl_up 32 (fun m q => ∃ v, q = (b2i (anr w r m), nI m, v) ∧ Fr PLn u v ∧ BF u v ns m) 0 (by decide) ⟨_, rfl, ?_, ?_⟩ ?_
  · exact (Fr.rf.wI rfl).wI rfl
  · refine ⟨fun s hs => absurd hs (by omega), fun s hs => absurd hs (by omega), fun s hs => ?_, ?_⟩
    · show bt 0 s = _
      rw [b_0]
      simp
    · rfl
  rintro m q hm ⟨v, rfl, hF, hB⟩ k hk
  have c7 : v.1 7 = u.1 7 := hF.i 7 (fun _ => rfl)
  have c11 : v.1 11 = u.1 11 := hF.i 11 (fun _ => rfl)
  have c12 : v.1 12 = u.1 12 := hF.i 12 (fun _ => rfl)
  have c13 : v.1 13 = u.1 13 := hF.i 13 (fun _ => rfl)
  have c14 : v.1 14 = u.1 14 := hF.i 14 (fun _ => rfl)
  unfold b_X1_learn_c16
  dsimp only
  refine ⟨fun c => ?_, fun c => ?_⟩
  · have c : nI 32 ≤ nI m := c
    rw [nI_leI (by decide) (by omega)] at c
    obtain rfl : m = 32 := by omega
    have fin : ∀ z, z = (if anr w r 32 then 0 else -1) → w_X1_learn_c224 z v Q := by
      rintro z rfl
      unfold w_X1_learn_c224
      refine fill_s (by decide) fun f hf _ => ?_
      refine fill_s (by decide) fun g hg _ => ?_
      rintro _ rfl
      refine h _ (((hF.wA (fun _ => rfl)).wA (fun _ => rfl)).wI rfl) ?_ (gi_eq _ _ _ _) (fun j hj => hf j hj) (fun j hj => hg j hj)
      exact hB
    exact ⟨fun c2 => fin _ (by rw [(b2i_0 _).mp c2]; rfl), fun c2 => fin _ (by
      have : anr w r 32 = true := by
        cases hb : anr w r 32
        · exact absurd ((b2i_0 _).mpr hb) c2
        · rfl
      rw [this]; rfl)⟩
  · have c : ¬ nI 32 ≤ nI m := c
    rw [nI_leI (by decide) (by omega)] at c
    have hm32 : m < 32 := by omega
    refine p_begin (by decide) ?_
    rw [c7]
    refine learn_c39 (ns := ns) (by rw [c7]; exact hM) (by rw [c12]; exact hns) (by rw [c13, c14]; exact hS) hm32 ?_ (by rw [c7]; exact lt8 rfl rfl rfl rfl rfl rfl rfl rfl)
    rw [c7, c13, c14]
    intro st hst
    unfold w_X1_learn_c94
    refine p_pack ?_
    rw [gg_wA_1, pkS_congr hst]
    refine ⟨vp_in_nI (by omega) (by decide), ?_⟩
    rintro _ rfl
    rw [nI_clamp (by omega)]
    have hv32 : vp_in (nI m) 32 := vp_in_nI hm32 (by decide)
    have st7 : st 7 = r m := by
      rw [← hr]
      exact hst 7 (by decide)
    have fin : ∀ z, z = nI (w m) → w_X1_learn_c130 (b2i (anr w r m)) (nI m) (nI m) z (gg_wL (gg_wA v 29 st) 16 m (pkS (rn (u.1 7) (u.1 13) m ns))) k Q := by
      rintro z rfl
      unfold w_X1_learn_c130 w_X1_learn_c170 w_X1_learn_c200 w_X1_learn_c201
      rw [nI_clamp (by omega), nI_1]
      refine ⟨hv32, ?_⟩
      rintro _ rfl
      refine ⟨hv32, ?_⟩
      rintro _ rfl
      refine ⟨hv32, ?_⟩
      obtain ⟨B1, B2, B3, B4⟩ := hB
      have r17 : ∀ y, (gg_wI (gg_wI (gg_wL (gg_wA v 29 st) 16 m (pkS (rn (u.1 7) (u.1 13) m ns))) 17 m (nI (w m))) 15 10 y).1 17 m = nI (w m) := fun y => by
        rw [gi_nt _ _ _ _ (show (17 : Nat) ≠ 15 by decide)]
        exact gi_eq _ _ _ _
      have r17' : (gg_wI (gg_wL (gg_wA v 29 st) 16 m (pkS (rn (u.1 7) (u.1 13) m ns))) 17 m (nI (w m))).1 17 m = nI (w m) := gi_eq _ _ _ _
      have r15 : (gg_wI (gg_wL (gg_wA v 29 st) 16 m (pkS (rn (u.1 7) (u.1 13) m ns))) 17 m (nI (w m))).1 15 10 = nI (fb_sm w m) := by
        rw [← hw]
        exact B4
      rw [r17', r15, nI_add, ← fb_sm_succ, r17]
      have r15b : (gg_wI (gg_wI (gg_wL (gg_wA v 29 st) 16 m (pkS (rn (u.1 7) (u.1 13) m ns))) 17 m (nI (w m))) 15 10 (nI (fb_sm w (m + 1)))).1 15 9 = v.1 15 9 := rfl
      rw [r15b]
      have hpos : (nI (w m) ≤ 0) ↔ ¬ 0 < w m := by
        show nI (w m) ≤ nI 0 ↔ _
        rw [nI_leI (by have := hwl m; omega) (by decide)]
        omega
      have go : ∀ y, (∀ s, s < 32 → bt (v.1 15 9 ||| y) s = decide (s < m + 1 ∧ 0 < w s)) → ∀ u5, u5 = gg_wI (gg_wI (gg_wI (gg_wL (gg_wA v 29 st) 16 m (pkS (rn (u.1 7) (u.1 13) m ns))) 17 m (nI (w m))) 15 10 (nI (fb_sm w (m + 1)))) 15 9 (v.1 15 9 ||| y) →
          vp_in (nI m) 32 ∧ (u5.1 17 m ≤ 0 → ∀ v4, v4 = b2i (anr w r m) ||| 0 → k (v4, nI (m + 1), u5)) ∧ (¬ u5.1 17 m ≤ 0 → (u5.1 29 7 = 0 → ∀ v4, v4 = b2i (anr w r m) ||| 0 → k (v4, nI (m + 1), u5)) ∧ (¬ u5.1 29 7 = 0 → ∀ v4, v4 = b2i (anr w r m) ||| 1 → k (v4, nI (m + 1), u5))) := by
        rintro y hy _ rfl
        refine ⟨hv32, ?_⟩
        have e17 : (gg_wI (gg_wI (gg_wI (gg_wL (gg_wA v 29 st) 16 m (pkS (rn (u.1 7) (u.1 13) m ns))) 17 m (nI (w m))) 15 10 (nI (fb_sm w (m + 1)))) 15 9 (v.1 15 9 ||| y)).1 17 m = nI (w m) := by
          rw [gi_nt _ _ _ _ (show (17 : Nat) ≠ 15 by decide), gi_nt _ _ _ _ (show (17 : Nat) ≠ 15 by decide)]
          exact gi_eq _ _ _ _
        have e29 : (gg_wI (gg_wI (gg_wI (gg_wL (gg_wA v 29 st) 16 m (pkS (rn (u.1 7) (u.1 13) m ns))) 17 m (nI (w m))) 15 10 (nI (fb_sm w (m + 1)))) 15 9 (v.1 15 9 ||| y)).1 29 7 = r m := st7
        rw [e17, e29, hpos]
        have fin2 : ∀ z, z = b2i (decide (0 < w m) && decide (¬ r m = 0)) → ∀ v4, v4 = b2i (anr w r m) ||| z → k (v4, nI (m + 1), gg_wI (gg_wI (gg_wI (gg_wL (gg_wA v 29 st) 16 m (pkS (rn (u.1 7) (u.1 13) m ns))) 17 m (nI (w m))) 15 10 (nI (fb_sm w (m + 1)))) 15 9 (v.1 15 9 ||| y)) := by
          rintro z rfl v4 rfl
          rw [b2i_or]
          refine hk hm32 _ ⟨_, rfl, ((((hF.wA (fun _ => rfl)).wL rfl).wI rfl).wI rfl).wI rfl, ?_, ?_, ?_, ?_⟩
          · intro s hs
            show (gg_wL (gg_wA v 29 st) 16 m (pkS (rn (u.1 7) (u.1 13) m ns))).2 16 s = _
            by_cases e : s = m
            · subst e
              exact gl_eq _ _ _ _
            · rw [gl_ne _ _ _ _ e]
              exact B1 s (by omega)
          · intro s hs
            show (gg_wI (gg_wL (gg_wA v 29 st) 16 m (pkS (rn (u.1 7) (u.1 13) m ns))) 17 m (nI (w m))).1 17 s = _
            rw [hw]
            by_cases e : s = m
            · subst e
              exact gi_eq _ _ _ _
            · rw [gi_ne _ _ _ _ e]
              have := B2 s (by omega)
              rw [hw] at this
              exact this
          · intro s hs
            rw [hw]
            exact hy s hs
          · rw [hw]
            rfl
        refine ⟨fun c3 => fin2 0 (by rw [decide_eq_false c3]; rfl), fun c3 => ⟨fun c4 => fin2 0 (by rw [c4]; simp; rfl), fun c4 => fin2 1 ?_⟩⟩
        have c3 : 0 < w m := by omega
        simp [c3, c4, b2i]
      rw [hpos]
      refine ⟨fun c2 => go 0 (fun s hs => ?_), fun c2 => go _ (fun s hs => ?_)⟩
      · rw [bx_or0]
        have := B3 s hs
        rw [hw] at this
        rw [this]
        congr 1
        by_cases e : s = m
        · subst e
          simp [c2]
        · have : s < m ↔ s < m + 1 := by omega
          rw [this]
      · rw [bx_or _ hm32 hs]
        have := B3 s hs
        rw [hw] at this
        rw [this]
        have c2 : 0 < w m := by omega
        by_cases e : s = m
        · subst e
          simp [c2]
        · rw [decide_eq_false e, Bool.or_false, decide_eq_decide]
          omega
    refine ⟨fun c2 => fin 0 ?_, fun c2 => ?_⟩
    · have c2 : agb (u.1 7) (u.1 13) (u.1 14) m ns = false := (b2i_0 _).mp c2
      rw [← hw]
      unfold wB
      rw [c2]
      rfl
    · have c2 : agb (u.1 7) (u.1 13) (u.1 14) m ns = true := by
        cases hb : agb (u.1 7) (u.1 13) (u.1 14) m ns
        · exact absurd ((b2i_0 _).mpr hb) c2
        · rfl
      have e11 : (gg_wL (gg_wA v 29 st) 16 m (pkS (rn (u.1 7) (u.1 13) m ns))).1 11 = u.1 11 := c11
      refine weightOf_s hm32 (by rw [e11]; exact hA) ?_
      rw [e11]
      refine fin _ ?_
      rw [← hw]
      unfold wB
      rw [c2]
      rfl
