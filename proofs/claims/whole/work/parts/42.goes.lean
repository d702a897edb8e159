/-! the reference's groups -/
theorem moves_s {lf lt s bf bt1 : Nat} {A B C : Int32} {u : gg_M} {Q : gg_M → Prop} (hA : A = nI lf) (hB : B = nI lt) (hC : C = nI s) (ef : bf = 256 * lf + 8 * s) (et : bt1 = 256 * lt + 8 * s) (hf : bf + 8 ≤ 1024) (ht : bt1 + 8 ≤ 1024) (hd : bf + 8 ≤ bt1)
    (h : ∀ st, ek8 st (fun k => u.1 51 (bf + k)) → Q (gg_wA u 51 (gp8 (u.1 51) bt1 st))) : w_X11_moves A B C u Q := by
  unfold w_X11_moves w_X11_moves_c3
  refine gl_up 8 (fun k q => ∃ st, q = (nI k, gg_wA u 51 (gp8 (u.1 51) bt1 st)) ∧ ∀ j, j < k → st j = u.1 51 (bf + j)) 0 (by decide) ⟨fun k => u.1 51 (bt1 + k), by rw [gp8_self, gm_self]; rfl, fun j hj => absurd hj (by omega)⟩ ?_
  rintro k q hk ⟨st, rfl, hst⟩ k3 hk3
  unfold b_X11_moves_c3
  dsimp only
  refine ⟨fun c => ?_, fun c => ?_⟩
  · have c : nI 8 ≤ nI k := c
    rw [nI_leI (by decide) (by omega)] at c
    obtain rfl : k = 8 := by omega
    exact h st hst
  · have c : ¬ nI 8 ≤ nI k := c
    rw [nI_leI (by decide) (by omega)] at c
    have e1 : (256 : Int32) * A + 8 * C + nI k = nI (bf + k) := by rw [hA, hC, show (256 : Int32) = nI 256 from rfl, show (8 : Int32) = nI 8 from rfl, pk_mul, pk_mul, nI_add, nI_add, ef]
    have e2 : (256 : Int32) * B + 8 * C + nI k = nI (bt1 + k) := by rw [hB, hC, show (256 : Int32) = nI 256 from rfl, show (8 : Int32) = nI 8 from rfl, pk_mul, pk_mul, nI_add, nI_add, et]
    rw [e1, e2]
    refine ⟨vp_in_nI (by omega) (by decide), vp_in_nI (by omega) (by decide), ?_⟩
    rintro _ rfl
    rw [nI_clamp (by omega), nI_clamp (by omega), nI_1]
    refine hk3 (by omega) _ ⟨upd st k (u.1 51 (bf + k)), ?_, fun j hj => ?_⟩
    · have er : (gg_wA u 51 (gp8 (u.1 51) bt1 st)).1 51 (bf + k) = u.1 51 (bf + k) := by rw [gg_wA_1, gp8_out _ _ _ (by omega)]
      rw [er]
      simp only [gm_I, gm_AA, gg_wA_1, gp8_upd _ _ bt1 _ (show k < 8 by omega)]
    · by_cases e : j = k
      · subst e
        rw [upd_self]
      · rw [upd_ne _ _ e]
        exact hst j (by omega)
def PGo (l t j : Nat) : Bool := (t == 51 && (decide (256 * (l + 1) ≤ j) && decide (j < 256 * (l + 1) + 256))) || (t == 56 && (decide (32 * l ≤ j) && decide (j < 32 * l + 32)))
theorem goesOn_s {l : Nat} {L G a : Int32} {g : Nat → Bool} {mv : Nat → Int32} {S : Nat → Nat → Int32} {u : gg_M} {Q : gg_M → Prop} (hL : L = nI l) (hl : l < 3) (h0 : 0 ≤ a) (h1 : a < 10) (hmv : ek7 (u.1 49) mv) (hM : dz_M mv) (hG : ∀ s, s < 32 → bt G s = g s)
    (hP : ∀ s, s < 32 → g s = true → ek8 (fun k => u.1 51 (256 * l + 8 * s + k)) (S s) ∧ dz_O mv (S s))
    (h : ∀ v, Fr (PGo l) u v → (∀ s, s < 32 → g s = true → ek8 (fun k => v.1 51 (256 * (l + 1) + 8 * s + k)) (dz_n mv (S s) a)) → (∀ s, s < 32 → g s = true → v.1 56 (32 * l + s) = dz_s mv (S s) a) → Q v) : w_X11_goesOn L G a u Q := by
  subst hL
  unfold w_X11_goesOn w_X11_goesOn_c3
  refine gl_up 32 (fun m q => ∃ v, q = (nI m, v) ∧ Fr (PGo l) u v ∧ (∀ s, s < m → g s = true → ek8 (fun k => v.1 51 (256 * (l + 1) + 8 * s + k)) (dz_n mv (S s) a)) ∧ ∀ s, s < m → g s = true → v.1 56 (32 * l + s) = dz_s mv (S s) a) 0 (by decide) ⟨u, rfl, Fr.rf, fun s hs => absurd hs (by omega), fun s hs => absurd hs (by omega)⟩ ?_
  rintro m q hm ⟨v, rfl, hF, H1, H2⟩ k hk
  unfold b_X11_goesOn_c3 w_X11_goesOn_c51
  dsimp only
  refine ⟨fun c => ?_, fun c => p_X11_isIn ?_⟩
  · have c : nI 32 ≤ nI m := c
    rw [nI_leI (by decide) (by omega)] at c
    obtain rfl : m = 32 := by omega
    exact h v hF H1 H2
  · have c : ¬ nI 32 ≤ nI m := c
    rw [nI_leI (by decide) (by omega)] at c
    have hm32 : m < 32 := by omega
    rw [show nI m + 1 = nI (m + 1) from nI_1 m, show nI l + 1 = nI (l + 1) from nI_1 l]
    cases hg : g m
    · rw [if_neg (fun z => by have := (bx_s G hm32).mp z; rw [hG m hm32, hg] at this; cases this)]
      refine ⟨fun _ => hk hm32 _ ⟨v, rfl, hF, fun s hs hgs => H1 s ?_ hgs, fun s hs hgs => H2 s ?_ hgs⟩, fun z => absurd rfl z⟩
      · by_cases e : s = m
        · subst e
          rw [hg] at hgs
          cases hgs
        · omega
      · by_cases e : s = m
        · subst e
          rw [hg] at hgs
          cases hgs
        · omega
    · rw [if_pos ((bx_s G hm32).mpr (by rw [hG m hm32]; exact hg))]
      refine ⟨fun z => absurd z (by decide), fun _ => ?_⟩
      obtain ⟨hp1, hp2⟩ := hP m hm32 hg
      refine moves_s rfl rfl rfl rfl rfl (by omega) (by omega) (by omega) fun st hst => ?_
      have hst2 : ek8 st (S m) := fun j hj => by
        rw [hst j hj]
        dsimp only
        rw [(hF 51 (256 * l + 8 * m + j) (by simp [PGo]; omega)).1]
        exact hp1 j hj
      have c49 : ∀ f, (gg_wA v 51 f).1 49 = u.1 49 := fun f => by
        rw [gg_wA_n _ _ (by decide)]
        exact hF.i 49 (fun j => by simp [PGo])
      have v49 : v.1 49 = u.1 49 := hF.i 49 (fun j => by simp [PGo])
      obtain ⟨d1, d2⟩ := dz_mv (st := st) hmv a
      obtain ⟨g1, g2⟩ := dz_congr (mv := mv) hst2 a
      refine p_mdoes (b := 256 * (l + 1) + 8 * m) ?_ (by omega) (by rw [v49]; exact dz_M_mv (fun j hj => (hmv j hj).symm) hM) ?_ h0 h1 ?_
      · rw [show (256 : Int32) = nI 256 from rfl, show (8 : Int32) = nI 8 from rfl, pk_mul, pk_mul, nI_add]
      · have := dz_O_congr hst2.sy hp2
        unfold dz_O at this ⊢
        rwa [v49, hmv 5 (by decide)]
      rw [v49, d1, g1, d2]
      have e3 : (32 : Int32) * nI l + nI m = nI (32 * l + m) := by rw [show (32 : Int32) = nI 32 from rfl, pk_mul, nI_add]
      rw [e3]
      refine ⟨vp_in_nI (by omega) (by decide), ?_⟩
      rintro _ rfl
      rw [nI_clamp (by omega)]
      refine hk hm32 _ ⟨_, rfl, ?_, fun s hs hgs => ?_, fun s hs hgs => ?_⟩
      · refine Fr.wI ?_ (by simp [PGo]; omega)
        intro t j ht
        by_cases e : t = 51
        · subst e
          rw [gg_wA_1, gp8_out _ _ _ (by simp [PGo] at ht; omega)]
          exact hF 51 j ht
        · rw [gg_wA_n _ _ e]
          exact hF t j ht
      · intro j hj
        rw [gi_nt _ _ _ _ (show (51 : Nat) ≠ 56 by decide), gg_wA_1]
        dsimp only
        by_cases e : s = m
        · subst e
          rw [gp8_at _ _ _ hj]
          exact g2 j hj
        · rw [gp8_out _ _ _ (by omega)]
          exact H1 s (by omega) hgs j hj
      · by_cases e : s = m
        · subst e
          exact gi_eq _ _ _ _
        · rw [gi_ne _ _ _ _ (by omega), gg_wA_n _ _ (by decide)]
          exact H2 s (by omega) hgs
theorem groupBy_s {l : Nat} {L G x : Int32} {g : Nat → Bool} {sn : Nat → Int32} {u : gg_M} {Q : Int32 → gg_M → Prop} (hL : L = nI l) (hl : l < 3) (hG : ∀ s, s < 32 → bt G s = g s) (hs : ∀ s, s < 32 → g s = true → u.1 56 (32 * l + s) = sn s)
    (h : ∀ R, (∀ s, s < 32 → bt R s = (g s && decide (sn s = x))) → Q R u) : w_X11_groupBy L G x u Q := by
  subst hL
  unfold w_X11_groupBy w_X11_groupBy_c6
  refine gl_up 32 (fun m q => ∃ R, q = (R, nI m, u) ∧ ∀ s, s < 32 → bt R s = (decide (s < m) && (g s && decide (sn s = x)))) 0 (by decide) ⟨0, rfl, fun s hs => by rw [b_0]; simp⟩ ?_
  rintro m q hm ⟨R, rfl, H⟩ k hk
  unfold b_X11_groupBy_c6 w_X11_groupBy_c47 w_X11_groupBy_c48
  dsimp only
  refine ⟨fun c => ?_, fun c => p_X11_isIn ?_⟩
  · have c : nI 32 ≤ nI m := c
    rw [nI_leI (by decide) (by omega)] at c
    exact h R (fun s hs => by rw [H s hs]; simp; omega)
  · have c : ¬ nI 32 ≤ nI m := c
    rw [nI_leI (by decide) (by omega)] at c
    have hm32 : m < 32 := by omega
    rw [show nI m + 1 = nI (m + 1) from nI_1 m]
    have no : (g m && decide (sn m = x)) = false → ∀ v1, v1 = R ||| 0 → k (v1, nI (m + 1), u) := by
      rintro hf v1 rfl
      rw [bx_or0]
      refine hk hm32 _ ⟨R, rfl, fun s hs => ?_⟩
      rw [H s hs]
      by_cases e : s = m
      · subst e
        rw [hf]
        simp
      · have : decide (s < m) = decide (s < m + 1) := by rw [decide_eq_decide]; omega
        rw [this]
    cases hg : g m
    · rw [if_neg (fun z => by have := (bx_s G hm32).mp z; rw [hG m hm32, hg] at this; cases this)]
      exact ⟨fun _ => no (by rw [hg]; rfl), fun z => absurd rfl z⟩
    · rw [if_pos ((bx_s G hm32).mpr (by rw [hG m hm32]; exact hg))]
      have e3 : (32 : Int32) * nI l + nI m = nI (32 * l + m) := by rw [show (32 : Int32) = nI 32 from rfl, pk_mul, nI_add]
      rw [e3, nI_clamp (by omega), hs m hm32 hg]
      refine ⟨fun z => absurd z (by decide), fun _ => ⟨vp_in_nI (by omega) (by decide), fun c2 => no (by simp [c2]), fun c2 => ?_⟩⟩
      rintro v1 rfl
      refine hk hm32 _ ⟨_, rfl, fun s hs2 => ?_⟩
      rw [bx_or _ hm32 hs2, H s hs2]
      by_cases e : s = m
      · subst e
        simp [hg, c2]
      · have : decide (s < m) = decide (s < m + 1) := by rw [decide_eq_decide]; omega
        rw [this]
        simp [e]
theorem mweightOf_s {G : Int32} {g : Nat → Bool} {w : Nat → Nat} {u : gg_M} {Q : Int64 → gg_M → Prop} (hG : ∀ s, s < 32 → bt G s = g s) (hw : ∀ s, s < 32 → u.2 55 s = lN (w s)) (h : Q (lN (gsm g w 32)) u) : w_X11_weightOf G u Q := by
  unfold w_X11_weightOf w_X11_weightOf_c5
  refine gl_up 32 (fun m q => q = (lN (gsm g w m), nI m, u)) 0 (by decide) rfl ?_
  rintro m q hm rfl k hk
  unfold b_X11_weightOf_c5 w_X11_weightOf_c33
  dsimp only
  refine ⟨fun c => ?_, fun c => p_X11_isIn ?_⟩
  · have c : nI 32 ≤ nI m := c
    rw [nI_leI (by decide) (by omega)] at c
    obtain rfl : m = 32 := by omega
    exact h
  · have c : ¬ nI 32 ≤ nI m := c
    rw [nI_leI (by decide) (by omega)] at c
    have hm32 : m < 32 := by omega
    rw [nI_1]
    have fin : ∀ z, z = lN (if g m then w m else 0) → ∀ v1, v1 = lN (gsm g w m) + z → k (v1, nI (m + 1), u) := by
      rintro z rfl v1 rfl
      rw [lN_add]
      exact hk hm32 _ rfl
    cases hg : g m
    · rw [if_neg (fun z => by have := (bx_s G hm32).mp z; rw [hG m hm32, hg] at this; cases this)]
      exact ⟨fun _ => fin 0 (by rw [hg]; rfl), fun z => absurd rfl z⟩
    · rw [if_pos ((bx_s G hm32).mpr (by rw [hG m hm32]; exact hg)), nI_clamp (by omega), hw m hm32]
      exact ⟨fun z => absurd z (by decide), fun _ => ⟨vp_in_nI hm32 (by decide), fin _ (by rw [hg]; rfl)⟩⟩
theorem lg_pos {n : Nat} (h : n < 2 ^ 62) : lg_cmp (lN n) 0 ≤ 0 ↔ ¬ 0 < n := by
  unfold lg_cmp
  have e1 : lN n > 0 ↔ 0 < n := by
    show (lN 0 < lN n) ↔ _
    exact pk_lLT (by decide) (by omega)
  by_cases c : 0 < n
  · rw [if_pos (e1.mpr c)]
    simp [c]
  · rw [if_neg (fun q => c (e1.mp q))]
    obtain rfl : n = 0 := by omega
    decide
theorem those_s {w : Nat → Nat} {u : gg_M} {Q : Int32 → gg_M → Prop} (hw : ∀ s, s < 32 → u.2 55 s = lN (w s)) (hwl : ∀ s, w s ≤ 1048576) (h : ∀ R, (∀ s, s < 32 → bt R s = decide (0 < w s)) → Q R u) : w_X11_those u Q := by
  unfold w_X11_those w_X11_those_c4
  refine gl_up 32 (fun m q => ∃ R, q = (R, nI m, u) ∧ ∀ s, s < 32 → bt R s = decide (s < m ∧ 0 < w s)) 0 (by decide) ⟨0, rfl, fun s hs => by rw [b_0]; simp⟩ ?_
  rintro m q hm ⟨R, rfl, H⟩ k hk
  unfold b_X11_those_c4 w_X11_those_c29
  dsimp only
  refine ⟨fun c => ?_, fun c => ?_⟩
  · have c : nI 32 ≤ nI m := c
    rw [nI_leI (by decide) (by omega)] at c
    refine h R (fun s hs => ?_)
    rw [H s hs, decide_eq_decide]
    omega
  · have c : ¬ nI 32 ≤ nI m := c
    rw [nI_leI (by decide) (by omega)] at c
    have hm32 : m < 32 := by omega
    rw [nI_1, nI_clamp (by omega), hw m hm32, lg_pos (by have := hwl m; omega)]
    refine ⟨vp_in_nI hm32 (by decide), fun c2 => ?_, fun c2 => ?_⟩
    · rintro v1 rfl
      rw [bx_or0]
      refine hk hm32 _ ⟨R, rfl, fun s hs => ?_⟩
      rw [H s hs, decide_eq_decide]
      by_cases e : s = m
      · subst e
        omega
      · omega
    · rintro v1 rfl
      refine hk hm32 _ ⟨_, rfl, fun s hs => ?_⟩
      rw [bx_or _ hm32 hs, H s hs]
      by_cases e : s = m
      · subst e
        have : 0 < w s := by omega
        simp [this]
      · rw [decide_eq_false e, Bool.or_false, decide_eq_decide]
        omega
