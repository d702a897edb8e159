/-! a group parted by the signs of an act -/
def gsm (g : Nat → Bool) (w : Nat → Nat) (m : Nat) : Nat := fb_sm (fun s => if g s then w s else 0) m
theorem gsm_le {g : Nat → Bool} {w : Nat → Nat} (h : ∀ s, w s ≤ 1048576) {m : Nat} (hm : m ≤ 32) : gsm g w m ≤ 33554432 := by
  refine Nat.le_trans (fb_sm_bound (c := 1048576) (fun k _ => ?_)) (by omega)
  show (if g k then w k else 0) ≤ _
  split
  · exact h k
  · omega
theorem gsm_succ (g : Nat → Bool) (w : Nat → Nat) (m : Nat) : gsm g w (m + 1) = gsm g w m + if g m then w m else 0 := rfl
def PPt (d t j : Nat) : Bool := (t == 16 && (decide (32 * (d + 1) ≤ j) && decide (j < 32 * (d + 1) + 32))) || t == 29 || t == 19 + d || t == 23 + d
theorem part_rf : ∀ d, d < 3 → gg_rf 18 d = 19 + d ∧ gg_rf 22 d = 23 + d ∧ gg_al (19 + d) = 7 ∧ gg_al (23 + d) = 7 := by decide +kernel
theorem part_s {d : Nat} {G a : Int32} {g : Nat → Bool} {w : Nat → Nat} {S : Nat → Nat → Int32} {u : gg_M} {Q : gg_M → Prop} (hd : d < 3) (h0 : 0 ≤ a) (h1 : a < 10) (hM : dz_M (u.1 7)) (hG : ∀ s, s < 32 → bt G s = g s) (hw : ∀ s, s < 32 → u.1 17 s = nI (w s)) (hwl : ∀ s, w s ≤ 1048576)
    (hP : ∀ s, s < 32 → g s = true → u.2 16 (32 * d + s) = pkS (S s) ∧ dz_O (u.1 7) (S s))
    (h : ∀ v, Fr (PPt d) u v → (∀ s, s < 32 → g s = true → v.2 16 (32 * (d + 1) + s) = pkS (dz_n (u.1 7) (S s) a)) →
      (∀ x, x < 7 → ∀ s, s < 32 → bt (v.1 (19 + d) x) s = (g s && decide (dz_s (u.1 7) (S s) a = nI x))) → (∀ x, x < 7 → v.1 (23 + d) x = nI (gsm (fun s => g s && decide (dz_s (u.1 7) (S s) a = nI x)) w 32)) → Q v) : w_X1_part G a (nI d) u Q := by
  obtain ⟨rf18, rf22, al19, al23⟩ := part_rf d hd
  have hv3 : vp_in (nI d) 3 := vp_in_nI hd (by decide)
  unfold w_X1_part
  refine p_X10_isBelow ?_
  rw [if_pos ⟨nI_pos' (by omega), (nI_ltI (b := 3) (by omega) (by decide)).mpr hd⟩]
  refine ⟨fun _ => ⟨hv3, ?_⟩, fun z => absurd z (by decide)⟩
  rw [nI_clamp (by omega), rf18, rf22]
  refine fill_s (by rw [al19]; decide) fun f hf _ => ⟨hv3, ?_⟩
  refine fill_s (by rw [al23]; decide) fun f2 hf2 _ => ?_
  rw [al19] at hf
  rw [al23] at hf2
  unfold w_X1_part_c35
  have st : ∀ m (v : gg_M), m ≤ 32 → Fr (PPt d) u v → (∀ s, s < m → g s = true → v.2 16 (32 * (d + 1) + s) = pkS (dz_n (u.1 7) (S s) a)) →
      (∀ x, x < 7 → ∀ s, s < 32 → bt (v.1 (19 + d) x) s = (decide (s < m) && (g s && decide (dz_s (u.1 7) (S s) a = nI x)))) → (∀ x, x < 7 → v.1 (23 + d) x = nI (gsm (fun s => g s && decide (dz_s (u.1 7) (S s) a = nI x)) w m)) → (∀ s, m ≤ s → s < 32 → g s = false) → Q v := by
    intro m v hm hF H1 H2 H3 hz
    refine h v hF (fun s hs hg => H1 s ?_ hg) (fun x hx s hs => ?_) (fun x hx => ?_)
    · rcases Nat.lt_or_ge s m with q | q
      · exact q
      · rw [hz s q hs] at hg
        cases hg
    · rw [H2 x hx s hs]
      rcases Nat.lt_or_ge s m with q | q
      · simp [q]
      · simp [hz s q hs]
    · rw [H3 x hx]
      congr 1
      have e := fb_sm_split (fun s => if (g s && decide (dz_s (u.1 7) (S s) a = nI x)) = true then w s else 0) m (32 - m)
      rw [show m + (32 - m) = 32 by omega] at e
      have e2 : fb_sm (fun k => (fun s => if (g s && decide (dz_s (u.1 7) (S s) a = nI x)) = true then w s else 0) (m + k)) (32 - m) = 0 := by
        rw [fb_sm_cong (g := fun _ => 0) (fun k hk => by
          show (if (g (m + k) && _) = true then w (m + k) else 0) = 0
          rw [hz (m + k) (by omega) (by omega)]
          rfl), fb_sm_const]
        omega
      rw [e2] at e
      exact e.symm
  refine gl_up 32 (fun m q => ∃ v, q = (nI m, v) ∧ Fr (PPt d) u v ∧ (∀ s, s < m → g s = true → v.2 16 (32 * (d + 1) + s) = pkS (dz_n (u.1 7) (S s) a)) ∧ (∀ x, x < 7 → ∀ s, s < 32 → bt (v.1 (19 + d) x) s = (decide (s < m) && (g s && decide (dz_s (u.1 7) (S s) a = nI x)))) ∧ ∀ x, x < 7 → v.1 (23 + d) x = nI (gsm (fun s => g s && decide (dz_s (u.1 7) (S s) a = nI x)) w m)) 0 (by decide) ⟨_, rfl, ?_, fun s hs => absurd hs (by omega), ?_, ?_⟩ ?_
  · refine (Fr.rf.wA (fun j => ?_)).wA (fun j => ?_)
    · simp [PPt]
    · simp [PPt]
  · intro x hx s hs
    rw [gg_wA_n _ _ (by omega), gg_wA_1, hf x hx, b_0]
    simp
  · intro x hx
    rw [gg_wA_1, hf2 x hx]
    rfl
  rintro m q hm ⟨v, rfl, hF, H1, H2, H3⟩ k hk
  have c7 : v.1 7 = u.1 7 := hF.i 7 (fun j => by simp [PPt]; omega)
  have c17 : v.1 17 = u.1 17 := hF.i 17 (fun j => by simp [PPt]; omega)
  unfold b_X1_part_c35 w_X1_part_c161 w_X1_part_c167
  dsimp only
  refine ⟨fun c => ?_, fun c => ⟨fun c2 => ?_, fun c2 => ?_⟩⟩
  · have c : nI 32 ≤ nI m := c
    rw [nI_leI (by decide) (by omega)] at c
    exact st m v hm hF H1 H2 H3 (fun s h1 h2 => by omega)
  · have c : ¬ nI 32 ≤ nI m := c
    rw [nI_leI (by decide) (by omega)] at c
    exact st m v hm hF H1 H2 H3 (fun s h1 h2 => by rw [← hG s h2]; exact (bx_z (by omega)).mp c2 s h1 h2)
  · have c : ¬ nI 32 ≤ nI m := c
    rw [nI_leI (by decide) (by omega)] at c
    have hm32 : m < 32 := by omega
    rw [bx_u _ hm32, hG m hm32, show nI m + 1 = nI (m + 1) from nI_1 m]
    have hskip : g m = false → k (nI (m + 1), v) := by
      intro hg
      refine hk hm32 _ ⟨v, rfl, hF, fun s hs hgs => H1 s ?_ hgs, fun x hx s hs => ?_, fun x hx => ?_⟩
      · by_cases e : s = m
        · subst e
          rw [hg] at hgs
          cases hgs
        · omega
      · rw [H2 x hx s hs]
        by_cases e : s = m
        · subst e
          simp [hg]
        · have : decide (s < m) = decide (s < m + 1) := by rw [decide_eq_decide]; omega
          rw [this]
      · rw [H3 x hx]
        rw [gsm_succ, hg]
        rfl
    refine ⟨fun c3 => ?_, fun c3 => hskip ?_⟩
    · have hg : g m = true := by
        cases hb : g m
        · rw [hb] at c3
          exact absurd rfl c3
        · rfl
      obtain ⟨hp1, hp2⟩ := hP m hm32 hg
      have e1 : nI d * 32 + nI m = nI (32 * d + m) := by rw [show (32 : Int32) = nI 32 from rfl, pk_mul, nI_add, Nat.mul_comm]
      have e2 : (nI d + 1) * 32 + nI m = nI (32 * (d + 1) + m) := by rw [nI_1, show (32 : Int32) = nI 32 from rfl, pk_mul, nI_add, Nat.mul_comm]
      rw [e1, e2]
      refine ⟨vp_in_nI (by omega) (by decide), ?_⟩
      rw [nI_clamp (show 32 * d + m < 2 ^ 31 by omega), nI_clamp (show 32 * (d + 1) + m < 2 ^ 31 by omega), nI_clamp (show m < 2 ^ 31 by omega), nI_clamp (show d < 2 ^ 31 by omega), rf18, rf22, al19, al23]
      have hst : v.2 16 (32 * d + m) = pkS (S m) := by
        rw [(hF 16 (32 * d + m) (by simp [PPt]; omega)).2]
        exact hp1
      rw [hst]
      refine p_unpack hp2 hM.2.2.2.2.2.1.2 ?_
      refine p_does (by decide) h0 h1 ?_
      rw [gg_wA_n _ _ (show (7 : Nat) ≠ 29 by decide), c7, gg_wA_1, gm_AA]
      have hek : ek8 (dz_mk (v.1 29) (S m 0) (S m 1) (S m 2) (S m 3) (S m 4) (S m 5) (S m 6) (S m 7)) (S m) := lt8 rfl rfl rfl rfl rfl rfl rfl rfl
      obtain ⟨g1, g2⟩ := dz_congr (mv := u.1 7) hek a
      rw [g1]
      generalize dz_n (u.1 7) (dz_mk (v.1 29) (S m 0) (S m 1) (S m 2) (S m 3) (S m 4) (S m 5) (S m 6) (S m 7)) a = st1 at g2
      refine p_pack ?_
      rw [gg_wA_1, pkS_congr g2]
      refine ⟨vp_in_nI (by omega) (by decide), ?_⟩
      rintro _ rfl
      have hsb := dz_s_b (mv := u.1 7) (st := S m) (a := a)
      obtain ⟨x, hx, ex⟩ : ∃ x, x < 7 ∧ dz_s (u.1 7) (S m) a = nI x := by
        obtain ⟨x, hx, e⟩ := nI_of2 (n := 6) (M := 6) (by decide) (fun q => by grind) hsb.2
        exact ⟨x, by omega, e⟩
      rw [ex]
      refine p_X10_isBelow ?_
      rw [if_pos ⟨nI_pos' (by omega), (nI_ltI (b := 7) (by omega) (by decide)).mpr hx⟩]
      refine ⟨fun z => absurd z (by decide), fun _ => ⟨hv3, vp_in_nI hx (by decide), vp_in_nI hx (by decide), ?_⟩⟩
      rintro _ rfl
      refine ⟨hv3, vp_in_nI hx (by decide), vp_in_nI hm32 (by decide), vp_in_nI hx (by decide), ?_⟩
      rintro _ rfl
      rw [nI_clamp (by omega)]
      generalize hV : gg_wL (gg_wA v 29 st1) 16 (32 * (d + 1) + m) (pkS (dz_n (u.1 7) (S m) a)) = V
      have VF : Fr (PPt d) u V := by
        rw [← hV]
        exact (hF.wA (fun j => by simp [PPt])).wL (by simp [PPt]; omega)
      have V19 : V.1 (19 + d) = v.1 (19 + d) := by
        rw [← hV]
        exact gg_wA_n _ _ (by omega)
      have V23 : V.1 (23 + d) = v.1 (23 + d) := by
        rw [← hV]
        exact gg_wA_n _ _ (by omega)
      have V17 : V.1 17 = u.1 17 := by
        rw [← hV]
        exact c17
      have V2 : ∀ s, s < m + 1 → g s = true → V.2 16 (32 * (d + 1) + s) = pkS (dz_n (u.1 7) (S s) a) := by
        intro s hs hgs
        rw [← hV]
        by_cases e : s = m
        · subst e
          exact gl_eq _ _ _ _
        · rw [gl_ne _ _ _ _ (by omega)]
          exact H1 s (by omega) hgs
      rw [gi_nt _ _ _ _ (show 23 + d ≠ 19 + d by omega), gi_nt _ _ _ _ (show 17 ≠ 19 + d by omega), V19, V23, V17, H3 x hx, hw m hm32, nI_add]
      refine hk hm32 _ ⟨_, rfl, (VF.wI (by simp [PPt])).wI (by simp [PPt]), V2, fun y hy s hs => ?_, fun y hy => ?_⟩
      · rw [gi_nt _ _ _ _ (show 19 + d ≠ 23 + d by omega)]
        by_cases e : y = x
        · subst e
          rw [gi_eq, bx_or _ hm32 hs, H2 y hx s hs]
          by_cases e2 : s = m
          · subst e2
            simp [hg, ex]
          · have : decide (s < m) = decide (s < m + 1) := by rw [decide_eq_decide]; omega
            rw [this]
            simp [e2]
        · rw [gi_ne _ _ _ _ e, V19, H2 y hy s hs]
          by_cases e2 : s = m
          · subst e2
            have : ¬ nI x = nI y := fun q => e ((nI_eq (by omega) (by omega)).mp q).symm
            simp [ex, this]
          · have : decide (s < m) = decide (s < m + 1) := by rw [decide_eq_decide]; omega
            rw [this]
      · by_cases e : y = x
        · subst e
          rw [gi_eq]
          congr 1
          rw [gsm_succ, hg, ex]
          simp
        · rw [gi_ne _ _ _ _ e, gi_nt _ _ _ _ (show 23 + d ≠ 19 + d by omega), V23, H3 y hy]
          congr 1
          rw [gsm_succ]
          have : ¬ nI x = nI y := fun q => e ((nI_eq (by omega) (by omega)).mp q).symm
          simp [ex, this]
    · cases hb : g m
      · rfl
      · rw [hb] at c3
        exact absurd c3 (by decide)
