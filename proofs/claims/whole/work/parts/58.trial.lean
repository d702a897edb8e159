/-! the habit, as it goes with each set -/
theorem dnn_le (mv ac : Nat → Int32) (s : Nat) : ∀ k, dnn mv ac s k ≤ k
  | 0 => Nat.le_refl _
  | k + 1 => by
    have := dnn_le mv ac s k
    show dnn mv ac s k + (if dz_s mv (rn mv ac s k) (ac k) = 4 then 0 else 1) ≤ _
    split <;> omega
theorem WF.hn {A : gg_M} (hA : WF A) : xhn A ≤ 90 := (HN_le _ _ hA.2.1.2).1
theorem WF.ha {A : gg_M} (hA : WF A) {j : Nat} (hj : j < xhn A) : 0 ≤ xha A j ∧ xha A j ≤ 9 := (HN_le _ _ hA.2.1.2).2 j hj
theorem xD_le {A : gg_M} (hA : WF A) (s : Nat) : xD A s ≤ 90 := Nat.le_trans (dnn_le _ _ _ _) hA.hn
theorem hO {A : gg_M} (hA : WF A) {s k : Nat} (hs : s < 32) (hk : k ≤ xhn A) : dz_O (xmv A) (rn (xmv A) (xha A) s k) := rn_O hA.M hs k (fun j hj => hA.ha (by omega))
def PTr (t _j : Nat) : Bool := t == 30 || t == 31 || t == 32
theorem PTr_C (t j : Nat) (h : PC t j = false) : PTr t j = false := by
  simp [PC] at h
  simp [PTr]
  omega
def LT (A : gg_M) (m : Nat) (v : gg_M) : Prop := (∀ s, s < m → v.1 32 s = nI (xD A s)) ∧ ∀ s, s < 32 → bt (v.1 31 2) s = (decide (s < m) && xR A s)
theorem tlearn_s {A u : gg_M} {Q : gg_M → Prop} (hA : WF A) (h : CC A u) (hQ : ∀ v, Fr PTr u v → KTf A v → Q v) : w_X9_learn 30 u Q := by
  unfold w_X9_learn
  rintro _ rfl
  unfold w_X9_learn_c8
  have hn90 := hA.hn
  refine gl_up 32 (fun m q => ∃ v, q = (nI m, v) ∧ Fr PTr u v ∧ LT A m v) 0 (by decide) ⟨_, rfl, Fr.rf.wI rfl, fun s hs => absurd hs (by omega), fun s hs => ?_⟩ ?_
  · rw [gi_eq, b_0]
    simp
  rintro m q hm ⟨v, rfl, hF, hL1, hL2⟩ k hk
  unfold b_X9_learn_c8
  dsimp only
  refine ⟨fun c => ?_, fun c => ?_⟩
  · have c : nI 32 ≤ nI m := c
    rw [nI_leI (by decide) (by omega)] at c
    obtain rfl : m = 32 := by omega
    rintro _ rfl
    refine hQ _ (hF.wI rfl) ⟨gi_eq _ _ _ _, fun s hs => ?_, hL1⟩
    rw [gi_ne _ _ _ _ (by decide), hL2 s hs, decide_eq_true hs, Bool.true_and]
  · have c : ¬ nI 32 ≤ nI m := c
    rw [nI_leI (by decide) (by omega)] at c
    have hm32 : m < 32 := by omega
    refine p_begin (by decide) ⟨vp_in_nI hm32 (by decide), ?_⟩
    rintro _ rfl
    rw [nI_clamp (by omega)]
    unfold w_X9_learn_c33
    refine gl_up (xhn A) (fun i q => ∃ w, q = (nI i, w) ∧ Fr PTr u w ∧ (∀ s, s < m → w.1 32 s = nI (xD A s)) ∧ w.1 31 2 = v.1 31 2 ∧ w.1 32 m = nI (dnn (xmv A) (xha A) m i) ∧ ek8 (w.1 30) (rn (xmv A) (xha A) m i)) 0 (by omega) ⟨_, rfl, (hF.wA (fun _ => rfl)).wI rfl, fun s hs => ?_, ?_, gi_eq _ _ _ _, ?_⟩ ?_
    · rw [gi_ne _ _ _ _ (by omega), gg_wA_n _ _ (by decide)]
      exact hL1 s hs
    · rw [gi_nt _ _ _ _ (by decide), gg_wA_n _ _ (by decide)]
    · rw [gi_nt _ _ _ _ (by decide), gg_wA_1, hF.i 7 (fun _ => rfl)]
      exact lt8 (h.2.1.2 5 (by decide)) (h.2.1.2 6 (by decide)) rfl rfl rfl rfl rfl rfl
    rintro i q hi ⟨w, rfl, hFw, W1, W2, W3, W4⟩ kk hkk
    unfold b_X9_learn_c33 w_X9_learn_c77
    dsimp only
    have w8 : w.1 8 1 = nI (xhn A) := by rw [hFw.i 8 (fun _ => rfl)]; exact h.2.2.1.2.1
    rw [w8, nI_leI (by omega) (by omega)]
    have dn : i = xhn A → w_X9_learn_c85 30 (nI m) w k Q := by
      rintro rfl
      unfold w_X9_learn_c85 w_X9_learn_c105
      rw [nI_1, W2]
      have h7 : w.1 30 7 = xH A m 7 := W4 7 (by decide)
      have hO7 := (hO hA hm32 (Nat.le_refl _)).2.2.2.2.2.2.2
      have go : ∀ x : Int32, (∀ s, s < 32 → bt (v.1 31 2 ||| x) s = (decide (s < m + 1) && xR A s)) → ∀ u1, u1 = gg_wI w 31 2 (v.1 31 2 ||| x) → k (nI (m + 1), u1) := by
        rintro x hx _ rfl
        refine hk hm32 _ ⟨_, rfl, hFw.wI rfl, fun s hs => ?_, fun s hs => ?_⟩
        · rw [gi_nt _ _ _ _ (by decide)]
          by_cases e : s = m
          · subst e
            exact W3
          · exact W1 s (by omega)
        · rw [gi_eq]
          exact hx s hs
      rw [h7]
      refine ⟨fun c2 => go 0 fun s hs => ?_, fun c2 => go _ fun s hs => ?_⟩
      · rw [bx_or0, hL2 s hs]
        by_cases e : s = m
        · subst e
          have : xR A s = false := decide_eq_false (fun z => by rw [c2] at z; exact absurd z (by decide))
          rw [this]
          simp
        · have : decide (s < m) = decide (s < m + 1) := by rw [decide_eq_decide]; omega
          rw [this]
      · rw [bx_or _ hm32 hs, hL2 s hs]
        have hx1 : xH A m 7 = 1 := by
          rcases hO7 with z | z
          · exact absurd z c2
          · exact z
        by_cases e : s = m
        · subst e
          have : xR A s = true := decide_eq_true hx1
          rw [this]
          simp
        · have : decide (s < m) = decide (s < m + 1) := by rw [decide_eq_decide]; omega
          rw [this]
          simp [e]
    refine ⟨fun c2 => dn (by omega), fun c2 => ⟨fun c3 => ?_, fun c3 => ⟨vp_in_nI hm32 (by decide), ?_⟩⟩⟩
    · have c3 : nI 90 ≤ nI i := c3
      rw [nI_leI (by decide) (by omega)] at c3
      omega
    · have hil : i < xhn A := by omega
      unfold w_X5_actAt w_X5_actAt_c27 w_X5_actAt_c28
      rw [w8, nI_leI (by omega) (by omega)]
      refine ⟨fun z => absurd z (nI_pos (by omega)), fun _ => ⟨fun z => absurd z c2, fun _ => ⟨fun z => absurd z c3, fun _ => ⟨vp_in_nI (by omega) (by decide), ?_⟩⟩⟩⟩
      have w9 : w.1 9 i = xha A i := by rw [hFw.i 9 (fun _ => rfl)]; exact h.2.2.1.2.2 i hil
      obtain ⟨a0, a9⟩ := hA.ha hil
      dsimp only
      rw [nI_clamp (n := i) (by omega), w9, nI_clamp (n := m) (by omega)]
      refine p_does (by decide) a0 (by grind) ?_
      have w7 : ek7 (w.1 7) (xmv A) := by rw [hFw.i 7 (fun _ => rfl)]; exact h.2.1.2
      rw [(dz_mv w7 _).1, (dz_mv w7 _).2, (dz_congr W4 _).1, W3, nI_1 i]
      have fin : ∀ z : Nat, dnn (xmv A) (xha A) m (i + 1) = dnn (xmv A) (xha A) m i + z → ∀ x, x = nI z → vp_in (nI m) 32 ∧ ∀ u4 : gg_M, u4 = gg_wI (gg_wA w 30 (dz_n (xmv A) (w.1 30) (xha A i))) 32 m (nI (dnn (xmv A) (xha A) m i) + x) → kk (nI (i + 1), u4) := by
        rintro z ez _ rfl
        refine ⟨vp_in_nI hm32 (by decide), ?_⟩
        rintro _ rfl
        rw [nI_add]
        refine hkk hil _ ⟨_, rfl, (hFw.wA (fun _ => rfl)).wI rfl, fun s hs => ?_, ?_, ?_, ?_⟩
        · rw [gi_ne _ _ _ _ (by omega), gg_wA_n _ _ (by decide)]
          exact W1 s hs
        · rw [gi_nt _ _ _ _ (by decide), gg_wA_n _ _ (by decide)]
          exact W2
        · rw [gi_eq, ez]
        · rw [gi_nt _ _ _ _ (by decide), gg_wA_1]
          exact (dz_congr W4 _).2
      have ed : dnn (xmv A) (xha A) m (i + 1) = dnn (xmv A) (xha A) m i + if dz_s (xmv A) (rn (xmv A) (xha A) m i) (xha A i) = 4 then 0 else 1 := rfl
      exact ⟨fun c4 => fin 1 (by rw [ed, if_neg c4]) 1 rfl, fun c4 => fin 0 (by rw [ed, if_pos c4]) 0 rfl⟩
theorem CI.ptr {A u v : gg_M} (h : CI A u) (hF : Fr PTr u v) (hK : KTf A v) : CI A v :=
  ⟨h.1.fr hF (fun t j q => by simp [kc] at q; simp [PTr]; omega), h.2.1.fr hF (fun _ _ => rfl) (fun _ _ => rfl) (fun _ => rfl) (fun _ => rfl) (fun _ => rfl), Or.inr hK, h.2.2.2.fr hF rfl (fun _ => rfl)⟩
theorem tried_s {A u : gg_M} {Q : Nat → gg_M → Prop} (hA : WF A) (h : CI A u) (hQ : ∀ v, Fr PTr u v → CI A v → KTf A v → Q 31 v) : w_X10_tried u Q := by
  unfold w_X10_tried w_X10_tried_c29
  rcases h.2.2.1 with hb | hb
  · rw [hb]
    exact ⟨fun z => absurd rfl z, fun _ => tlearn_s hA h.1 fun v hF hK => hQ v hF (h.ptr hF hK) hK⟩
  · refine ⟨fun _ => hQ u Fr.rf h hb, fun z => ?_⟩
    rw [hb.1] at z
    exact absurd z (by decide)
def xV (A : gg_M) (wo : Int32) : Nat := gsm (xR A) (fun s => wpr (A.1 52) wo s 5) 32
def xK (A : gg_M) : Nat := fb_sm (fun s => xD A s * wpr (A.1 52) (-1) s 5) 32
theorem xV_le {A : gg_M} (hA : WF A) (wo : Int32) : xV A wo ≤ 33554432 := gsm_le (fun _ => wpr_5 hA.2.2.1) (by decide)
theorem xK_le {A : gg_M} (hA : WF A) : xK A ≤ 3019898880 := by
  refine Nat.le_trans (fb_sm_bound (c := 90 * 1048576) fun s _ => ?_) (by omega)
  exact Nat.mul_le_mul (xD_le hA s) (wpr_5 hA.2.2.1)
theorem weightHaving_s {A u : gg_M} {wo : Int32} {Q : Int64 → gg_M → Prop} (hA : WF A) (h : CC A u) (hK : KTf A u) (hQ : Q (lN (xV A wo)) u) : w_X9_weightHaving wo u Q := by
  unfold w_X9_weightHaving w_X9_weightHaving_c5
  refine gl_up 32 (fun m q => q = (lN (gsm (xR A) (fun s => wpr (A.1 52) wo s 5) m), nI m, u)) 0 (by decide) rfl ?_
  rintro m q hm rfl k hk
  unfold b_X9_weightHaving_c5
  dsimp only
  refine ⟨fun c => ?_, fun c => ?_⟩
  · have c : nI 32 ≤ nI m := c
    rw [nI_leI (by decide) (by omega)] at c
    obtain rfl : m = 32 := by omega
    exact hQ
  · have c : ¬ nI 32 ≤ nI m := c
    rw [nI_leI (by decide) (by omega)] at c
    refine weightOf_s (by omega) (h.okA hA) ?_
    rintro _ rfl
    have hw : wpr (A.1 52) wo m 5 ≤ 1048576 := wpr_5 hA.2.2.1
    rw [wpr_c h.2.2.2.1, bx_u _ (by omega), hK.2.1 m (by omega), nI_1]
    refine hk (by omega) _ ?_
    rw [gsm_succ]
    cases xR A m
    · rw [if_neg (by decide), if_neg (by decide), show (0 : Int32) = nI 0 from rfl, pk_mul, Nat.zero_mul, nI_l (by decide), lN_add]
    · rw [if_pos rfl, if_pos rfl, show (1 : Int32) = nI 1 from rfl, pk_mul, Nat.one_mul, nI_l (by omega), lN_add]
theorem actsDone_s {A u : gg_M} {Q : Int64 → gg_M → Prop} (hA : WF A) (h : CC A u) (hK : KTf A u) (hQ : Q (lN (xK A)) u) : w_X9_actsDone u Q := by
  unfold w_X9_actsDone w_X9_actsDone_c5
  refine gl_up 32 (fun m q => q = (lN (fb_sm (fun s => xD A s * wpr (A.1 52) (-1) s 5) m), nI m, u)) 0 (by decide) rfl ?_
  rintro m q hm rfl k hk
  unfold b_X9_actsDone_c5
  dsimp only
  refine ⟨fun c => ?_, fun c => ?_⟩
  · have c : nI 32 ≤ nI m := c
    rw [nI_leI (by decide) (by omega)] at c
    obtain rfl : m = 32 := by omega
    exact hQ
  · have c : ¬ nI 32 ≤ nI m := c
    rw [nI_leI (by decide) (by omega)] at c
    refine ⟨vp_in_nI (by omega) (by decide), weightOf_s (by omega) (h.okA hA) ?_⟩
    rintro _ rfl
    have hw : wpr (A.1 52) (-1) m 5 ≤ 1048576 := wpr_5 hA.2.2.1
    have hd := xD_le hA m
    rw [wpr_c h.2.2.2.1, nI_clamp (by omega), hK.2.2 m (by omega), nI_1, nI_l (by omega), nI_l (by omega), lN_mul, lN_add]
    exact hk (by omega) _ rfl
