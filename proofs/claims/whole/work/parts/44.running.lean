/-! the class's pruned search -/
def PW (d t j : Nat) : Bool := (t == 16 && decide (32 * (d + 1) ≤ j)) || t == 29 || (decide (19 + d ≤ t) && decide (t < 22)) || (decide (23 + d ≤ t) && decide (t < 26)) || (t == 28 && decide (d ≤ j))
theorem PW_sub {d : Nat} (t j : Nat) (h : PW d t j = false) : PW (d + 1) t j = false := by
  simp [PW] at h ⊢
  omega
theorem PW_pt {d : Nat} (hd : d < 3) (t j : Nat) (h : PW d t j = false) : PPt d t j = false := by
  simp [PW] at h
  simp [PPt]
  omega
theorem wrun_step {w : Nat → Nat} (hwl : ∀ s, w s ≤ 1048576) {n d : Nat} (hd : d + n < 3) {G W : Int32} {g : Nat → Bool} {S : Nat → Nat → Int32} {u : gg_M} {WW : Int32 → Int32 → Int32 → Int32 → gg_M → (Int32 → gg_M → Prop) → Prop} {Q : Int32 → gg_M → Prop}
    (hW : 0 < n → ∀ (G1 W1 : Int32) (g1 : Nat → Bool) (S1 : Nat → Nat → Int32) (u1 : gg_M) (Q1 : Int32 → gg_M → Prop), dz_M (u1.1 7) → (∀ s, s < 32 → bt G1 s = g1 s) → (∀ s, s < 32 → u1.1 17 s = nI (w s)) → W1 = nI (gsm g1 w 32) →
      (∀ s, s < 32 → g1 s = true → u1.2 16 (32 * (d + 1) + s) = pkS (S1 s) ∧ dz_O (u1.1 7) (S1 s)) → (∀ v, Fr (PW (d + 1)) u1 v → Q1 (nI (vk (u1.1 7) w n g1 S1)) v) → WW G1 W1 (nI (d + 1)) (nI n) u1 Q1)
    (hM : dz_M (u.1 7)) (hG : ∀ s, s < 32 → bt G s = g s) (hw : ∀ s, s < 32 → u.1 17 s = nI (w s)) (hWh : W = nI (gsm g w 32))
    (hP : ∀ s, s < 32 → g s = true → u.2 16 (32 * d + s) = pkS (S s) ∧ dz_O (u.1 7) (S s))
    (h : ∀ v, Fr (PW d) u v → v.1 28 d = nI (ams (av (u.1 7) w n g S) 10) → Q (nI (vk (u.1 7) w (n + 1) g S)) v) : w_X1_weightRunning G W (nI d) (nI (n + 1)) u WW Q := by
  obtain ⟨rf18, rf22, al19, al23⟩ := part_rf d (by omega)
  have hv3 : vp_in (nI d) 3 := vp_in_nI (by omega) (by decide)
  have hgl : gsm g w 32 ≤ 33554432 := gsm_le hwl (by decide)
  unfold w_X1_weightRunning
  refine p_X10_isBelow ?_
  rw [if_pos ⟨nI_pos' (by omega), (nI_ltI (b := 3) (by omega) (by decide)).mpr (by omega)⟩]
  refine ⟨fun _ => ?_, fun z => absurd z (by decide)⟩
  let f := av (u.1 7) w n g S
  have hfl : ∀ a, f a ≤ gsm g w 32 := fun a => av_le _ _ _ _ _ _
  have hml : ∀ k, mxs f k ≤ gsm g w 32 := fun k => mxs_le fun a _ => hfl a
  have fin : ∀ m v, 0 < m → m ≤ 10 → (∀ a, m ≤ a → a < 10 → f a ≤ mxs f m) → v.1 28 d = nI (ams f m) → Fr (PW d) u v → Q (nI (mxs f m)) v := by
    intro m v h0 h1 h2 h3 hF
    obtain ⟨e1, e2⟩ := mxs_st (f := f) (m := m) (10 - m) (fun a ha hb => h2 a ha (by omega))
    rw [show m + (10 - m) = 10 by omega] at e1 e2
    have := h v hF (by rw [h3, ← e2])
    rw [vk_s] at this
    rw [← e1]
    exact this
  have main : ∀ N, 0 < N → N ≤ 10 → (∀ a, N ≤ a → a < 10 → f a = 0) → w_X1_weightRunning_c26 G W (nI d) (nI (n + 1)) (-1) (nI N) u WW Q := by
    intro N hN0 hN hNz
    unfold w_X1_weightRunning_c26 w_X1_weightRunning_c31
    refine gl_up N (fun m q => ∃ v most, q = (most, nI m, v) ∧ Fr (PW d) u v ∧ (m = 0 → most = -1) ∧ (0 < m → most = nI (mxs f m) ∧ v.1 28 d = nI (ams f m))) 0 (by omega) ⟨u, -1, rfl, Fr.rf, fun _ => rfl, fun z => absurd z (by omega)⟩ ?_
    rintro m q hm ⟨v, most, rfl, hF, hm0, hm1⟩ k hk
    unfold b_X1_weightRunning_c31 w_X1_weightRunning_c166
    dsimp only
    refine ⟨fun c => ?_, fun c => ⟨fun c2 => ?_, fun c2 => ?_⟩⟩
    · rw [nI_leI (by omega) (by omega)] at c
      obtain rfl : m = N := by omega
      obtain ⟨rfl, h28⟩ := hm1 hN0
      exact fin m v hN0 hN (fun a ha hb => by rw [hNz a ha hb]; omega) h28 hF
    · rcases Nat.eq_zero_or_pos m with e | e
      · rw [hm0 e, hWh] at c2
        have : (0 : Int32) ≤ nI (gsm g w 32) := nI_pos' (by omega)
        exact absurd c2 (by grind)
      · obtain ⟨rfl, h28⟩ := hm1 e
        rw [hWh, nI_leI (by omega) (by have := hml m; omega)] at c2
        exact fin m v e (by omega) (fun a _ _ => by have := hfl a; omega) h28 hF
    · rw [nI_leI (by omega) (by omega)] at c
      have hm10 : m < N := by omega
      have v7 : v.1 7 = u.1 7 := hF.i 7 (fun j => by simp [PW]; omega)
      refine part_s (g := g) (w := w) (S := S) (by omega) (nI_pos' (by omega)) ((nI_ltI (b := 10) (by omega) (by decide)).mpr (by omega)) (by rw [v7]; exact hM) hG (fun s hs => by rw [hF.i 17 (fun j => by simp [PW]; omega)]; exact hw s hs) hwl (fun s hs hg => ?_) ?_
      · rw [v7, (hF 16 (32 * d + s) (by simp [PW]; omega)).2]
        exact hP s hs hg
      intro v1 hF1 H1 H2 H3
      rw [v7] at H1 H2 H3
      have hF2 : Fr (PW d) u v1 := hF.tr (hF1.mono (PW_pt (by omega)))
      rw [nI_clamp (by omega), rf22]
      refine ⟨hv3, by rw [al23]; exact vp_in_nI (n := 2) (by decide) (by decide), ?_⟩
      rintro _ rfl
      rw [H3 2 (by decide)]
      have last : ∀ v2, Fr (PW d) u v2 → v2.1 28 d = v.1 28 d → w_X1_weightRunning_c140 G W (nI d) (nI (n + 1)) most (nI N) (nI m) (nI (f m)) v2 WW k Q := by
        intro v2 hF3 h28v
        unfold w_X1_weightRunning_c140 w_X1_weightRunning_c160
        have hfm := hfl m
        have hmm := hml m
        have es : mxs f (m + 1) = if mxs f m < f m then f m else mxs f m := rfl
        have ea : ams f (m + 1) = if mxs f m < f m then m else ams f m := rfl
        rw [nI_1, nI_clamp (by omega)]
        refine ⟨fun c3 => ?_, fun c3 => ⟨hv3, ?_⟩⟩
        · rcases Nat.eq_zero_or_pos m with e | e
          · rw [hm0 e] at c3
            have : (0 : Int32) ≤ nI (f m) := nI_pos' (by omega)
            exact absurd c3 (by grind)
          · obtain ⟨e1, h28⟩ := hm1 e
            rw [e1, nI_leI (by omega) (by omega)] at c3
            refine hk hm10 _ ⟨v2, most, rfl, hF3, fun z => absurd z (by omega), fun _ => ⟨?_, ?_⟩⟩
            · rw [e1, es, if_neg (by omega)]
            · rw [h28v, h28, ea, if_neg (by omega)]
        · rintro _ rfl
          refine hk hm10 _ ⟨_, _, rfl, hF3.wI (by simp [PW]), fun z => absurd z (by omega), fun _ => ?_⟩
          rw [gi_eq, es, ea]
          rcases Nat.eq_zero_or_pos m with e | e
          · subst e
            have : mxs f 0 = 0 := rfl
            have : ams f 0 = 0 := rfl
            by_cases c4 : mxs f 0 < f 0
            · rw [if_pos c4, if_pos c4]
              exact ⟨rfl, rfl⟩
            · rw [if_neg c4, if_neg c4, show f 0 = mxs f 0 by omega]
              exact ⟨rfl, rfl⟩
          · obtain ⟨e1, h28⟩ := hm1 e
            rw [e1, nI_leI (by omega) (by omega)] at c3
            rw [if_pos (by omega), if_pos (by omega)]
            exact ⟨rfl, rfl⟩
      unfold w_X1_weightRunning_c68
      refine gl_up 7 (fun x q => ∃ v2, q = (nI (gsm (gS (u.1 7) S g (nI m) 2) w 32 + fb_sm (ak (u.1 7) w n g S m) x), nI x, v2) ∧ Fr (PW (d + 1)) v1 v2) 0 (by decide) ⟨v1, rfl, Fr.rf⟩ ?_
      rintro x q hx ⟨v2, rfl, hF3⟩ kk hkk
      unfold b_X1_weightRunning_c68 w_X1_weightRunning_c134
      dsimp only
      have hF4 : Fr (PW d) u v2 := hF2.tr (hF3.mono PW_sub)
      have h28v : v2.1 28 d = v.1 28 d := by
        rw [(hF3 28 d (by simp [PW])).1, (hF1 28 d (by simp [PPt]; omega)).1]
      refine ⟨fun c3 => ?_, fun c3 => ⟨fun c4 => ?_, fun c4 => ?_⟩⟩
      · have c3 : nI 7 ≤ nI x := c3
        rw [nI_leI (by decide) (by omega)] at c3
        obtain rfl : x = 7 := by omega
        exact last v2 hF4 h28v
      · have c4 : nI (n + 1) ≤ nI 1 := c4
        rw [nI_leI (by omega) (by decide)] at c4
        obtain rfl : n = 0 := by omega
        have e0 : ∀ y, fb_sm (ak (u.1 7) w 0 g S m) y = 0 := fun y => by
          rw [fb_sm_cong (g := fun _ => 0) (fun z _ => by unfold ak; split <;> rfl), fb_sm_const]
          omega
        rw [e0, show gsm (gS (u.1 7) S g (nI m) 2) w 32 + 0 = f m by show _ = av _ _ _ _ _ _; unfold av; rw [e0]]
        exact last v2 hF4 h28v
      · have c3 : ¬ nI 7 ≤ nI x := c3
        rw [nI_leI (by decide) (by omega)] at c3
        have c4 : ¬ nI (n + 1) ≤ nI 1 := c4
        rw [nI_leI (by omega) (by decide)] at c4
        have hx7 : x < 7 := by omega
        rw [nI_clamp (by omega), nI_clamp (by omega), rf18, rf22, al19, al23, nI_1, nI_1, nI_pred]
        refine ⟨hv3, vp_in_nI hx7 (by decide), ?_⟩
        rintro _ rfl
        have r19 : v2.1 (19 + d) x = v1.1 (19 + d) x := (hF3 (19 + d) x (by simp [PW]; omega)).1
        have r23 : v2.1 (23 + d) x = v1.1 (23 + d) x := (hF3 (23 + d) x (by simp [PW]; omega)).1
        have no : ak (u.1 7) w n g S m x = 0 → kk (nI (gsm (gS (u.1 7) S g (nI m) 2) w 32 + fb_sm (ak (u.1 7) w n g S m) x), nI (x + 1), v2) := fun e0 => by
          refine hkk hx7 _ ⟨v2, ?_, hF3⟩
          rw [fb_sm_succ, e0, Nat.add_zero (fb_sm _ _)]
        refine ⟨fun c5 => no ?_, fun c5 => ⟨fun c6 => no ?_, fun c6 => ⟨hv3, vp_in_nI hx7 (by decide), ?_⟩⟩⟩
        · have c5 : nI x = nI 2 := c5
          rw [nI_eq (by omega) (by decide)] at c5
          unfold ak
          rw [if_pos c5]
        · unfold ak
          split
          · rfl
          · rw [r19] at c6
            refine vk_emp fun s hs => ?_
            have := (bx_z0.mp c6) s hs
            rw [H2 x hx7 s hs] at this
            exact this
        · have c5 : ¬ nI x = nI 2 := c5
          rw [nI_eq (by omega) (by decide)] at c5
          have w7 : v2.1 7 = u.1 7 := hF4.i 7 (fun j => by simp [PW]; omega)
          refine hW (by omega) _ _ (gS (u.1 7) S g (nI m) x) (fun s => dz_n (u.1 7) (S s) (nI m)) _ _ (by rw [w7]; exact hM) (fun s hs => by rw [r19, H2 x hx7 s hs]; rfl) (fun s hs => by rw [hF4.i 17 (fun j => by simp [PW]; omega)]; exact hw s hs) (by rw [r23, H3 x hx7]; rfl) (fun s hs hg => ?_) ?_
          · have hgs : g s = true := by
              unfold gS at hg
              simp at hg
              exact hg.1
            rw [w7, (hF3 16 (32 * (d + 1) + s) (by simp [PW]; omega)).2]
            exact ⟨H1 s hs hgs, dz_n_O hM (hP s hs hgs).2 (nI_pos' (by omega)) ((nI_ltI (b := 10) (by omega) (by decide)).mpr (by omega))⟩
          · intro v3 hF5
            rintro _ rfl
            rw [w7, nI_add]
            refine hkk hx7 _ ⟨v3, ?_, hF3.tr hF5⟩
            rw [fb_sm_succ, Nat.add_assoc]
            unfold ak
            rw [if_neg c5]
  refine ⟨fun c => main 10 (by decide) (by decide) (fun a ha hb => by omega), fun c => ?_⟩
  have c : ¬ nI 1 < nI (n + 1) := c
  rw [nI_ltI (by decide) (by omega)] at c
  obtain rfl : n = 0 := by omega
  exact main 4 (by decide) (by decide) (fun a ha hb => av_td ha hb)
theorem wrun_s {w : Nat → Nat} (hwl : ∀ s, w s ≤ 1048576) : ∀ (n e d : Nat), d + n < 3 → ∀ (G W : Int32) (g : Nat → Bool) (S : Nat → Nat → Int32) (u : gg_M) (Q : Int32 → gg_M → Prop), dz_M (u.1 7) → (∀ s, s < 32 → bt G s = g s) → (∀ s, s < 32 → u.1 17 s = nI (w s)) → W = nI (gsm g w 32) →
      (∀ s, s < 32 → g s = true → u.2 16 (32 * d + s) = pkS (S s) ∧ dz_O (u.1 7) (S s)) → (∀ v, Fr (PW d) u v → v.1 28 d = nI (ams (av (u.1 7) w n g S) 10) → Q (nI (vk (u.1 7) w (n + 1) g S)) v) → wr_X1_weightRunning (n + 1 + e) G W (nI d) (nI (n + 1)) u Q
  | 0, e, d, hd, G, W, g, S, u, Q, hM, hG, hw, hW, hP, h => by
    rw [show 0 + 1 + e = e + 1 by omega]
    exact wrun_step hwl hd (fun z => absurd z (by omega)) hM hG hw hW hP h
  | n + 1, e, d, hd, G, W, g, S, u, Q, hM, hG, hw, hW, hP, h => by
    rw [show n + 1 + 1 + e = n + 1 + e + 1 by omega]
    exact wrun_step hwl hd (fun _ G1 W1 g1 S1 u1 Q1 h1 h2 h3 h4 h5 h6 => wrun_s hwl n e (d + 1) (by omega) G1 W1 g1 S1 u1 Q1 h1 h2 h3 h4 h5 (fun v hv _ => h6 v hv)) hM hG hw hW hP h
