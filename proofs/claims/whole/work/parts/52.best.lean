/-! how sure an act makes -/
def hvy (g : Nat → Bool) (w : Nat → Nat) (s : Nat) : Nat := if g s then w s else 0
theorem hvy_le {g : Nat → Bool} {w : Nat → Nat} (h : ∀ s, w s ≤ 1048576) (k : Nat) : mxs (hvy g w) k ≤ 1048576 := mxs_le fun a _ => by
  unfold hvy
  split
  · exact h a
  · omega
theorem heaviestOf_s {G : Int32} {g : Nat → Bool} {w : Nat → Nat} {u : gg_M} {Q : Int32 → gg_M → Prop} (hG : ∀ s, s < 32 → bt G s = g s) (hw : ∀ s, s < 32 → u.1 17 s = nI (w s)) (hwl : ∀ s, w s ≤ 1048576) (h : Q (nI (mxs (hvy g w) 32)) u) : w_X1_heaviestOf G u Q := by
  unfold w_X1_heaviestOf w_X1_heaviestOf_c4
  refine gl_up 32 (fun m q => q = (nI (mxs (hvy g w) m), nI m, u)) 0 (by decide) rfl ?_
  rintro m q hm rfl k hk
  unfold b_X1_heaviestOf_c4
  dsimp only
  refine ⟨fun c => ?_, fun c => ?_⟩
  · have c : nI 32 ≤ nI m := c
    rw [nI_leI (by decide) (by omega)] at c
    obtain rfl : m = 32 := by omega
    exact h
  · have c : ¬ nI 32 ≤ nI m := c
    rw [nI_leI (by decide) (by omega)] at c
    refine ⟨vp_in_nI (by omega) (by decide), p_max ?_⟩
    have e : (if bt G m then (1 : Int32) else 0) * nI (w m) = nI (hvy g w m) := by
      rw [hG m (by omega)]
      unfold hvy
      cases g m
      · rw [if_neg (by decide), if_neg (by decide), show (0 : Int32) = nI 0 from rfl, pk_mul, Nat.zero_mul]
      · rw [if_pos rfl, if_pos rfl, show (1 : Int32) = nI 1 from rfl, pk_mul, Nat.one_mul]
    have hl : hvy g w m ≤ 1048576 := by
      unfold hvy
      split
      · exact hwl m
      · omega
    have hl2 := hvy_le (g := g) hwl m
    rw [nI_1, nI_clamp (by omega), hw m (by omega), bx_u _ (by omega), e]
    refine hk (by omega) _ ?_
    have es : mxs (hvy g w) (m + 1) = if mxs (hvy g w) m < hvy g w m then hvy g w m else mxs (hvy g w) m := rfl
    rw [es]
    by_cases c2 : mxs (hvy g w) m < hvy g w m
    · rw [if_pos c2, if_pos ((nI_ltI (by omega) (by omega)).mpr c2)]
    · rw [if_neg c2, if_neg (fun z => c2 ((nI_ltI (by omega) (by omega)).mp z))]
def xsu (A : gg_M) (a : Int32) (x : Nat) : Nat := mxs (hvy (xP A a x) (xW A)) 32
theorem xsu_le {A : gg_M} (hA : WF A) (a : Int32) {m : Nat} (hm : m ≤ 7) : fb_sm (xsu A a) m ≤ 7340032 := Nat.le_trans (fb_sm_bound (c := 1048576) (fun k _ => hvy_le (xW_le hA) 32)) (by omega)
def q_sure (A : gg_M) (a b : Int32) : Int64 := if (0 ≤ a ∧ a < 10) ∧ 0 ≤ b ∧ b < 2 then (if xTot A = 0 then NO (-3) else tld (fb_sm (xsu A a) 7) (xTot A) b) else NO (-2)
theorem c_sure {A u : gg_M} {a b : Int32} {Q : Int64 → gg_M → Prop} (hA : WF A) (h : CI A u) (hQ : ∀ v, Fr PC u v → CI A v → Q (q_sure A a b) v) : w_X10_sure a b u Q := by
  unfold w_X10_sure w_X10_sure_c17
  unfold q_sure at hQ
  refine isB_s (fun c => t1 ?_) (fun c => t0 ?_)
  · refine isB_s (fun c2 => y1 ?_) (fun c2 => y0 ?_)
    · rw [if_pos ⟨c, c2⟩] at hQ
      refine known_s hA h fun v hF hI hK => ⟨rfl, ?_⟩
      have ht := xTot_le hA
      rw [hK.tn hA]
      refine ⟨fun c4 => partA_s hA hI hK c.1 c.2 fun v1 hF1 hI1 hK1 H2 _ => ?_, fun c4 => refusal_s ?_⟩
      · unfold w_X10_sure_c61
        refine gl_up 7 (fun m q => q = (nI (fb_sm (xsu A a) m), nI m, v1)) 0 (by decide) rfl ?_
        rintro m q hm rfl k hk
        unfold b_X10_sure_c61
        dsimp only
        refine ⟨fun c => ?_, fun c => ?_⟩
        · have c : nI 7 ≤ nI m := c
          rw [nI_leI (by decide) (by omega)] at c
          obtain rfl : m = 7 := by omega
          have hl := xsu_le hA a (m := 7) (by omega)
          rw [hK1.tl hA, nI_l (by omega)]
          refine told_s (by omega) (by omega) (by omega) ?_
          have hq := hQ v1 ((hF.mono PLn_C).tr (hF1.mono PPt_C)) hI1
          rwa [if_neg c4] at hq
        · have c : ¬ nI 7 ≤ nI m := c
          rw [nI_leI (by decide) (by omega)] at c
          refine ⟨vp_in_nI (by omega) (by decide), ?_⟩
          rw [nI_clamp (by omega)]
          refine heaviestOf_s (H2 m (by omega)) hK1.2.2.1 (xW_le hA) ?_
          rintro _ rfl
          rw [nI_1, nI_add]
          exact hk (by omega) _ rfl
      · have hq := hQ v (hF.mono PLn_C) hI
        rwa [if_pos c4] at hq
    · rw [if_neg (fun z => c2 z.2)] at hQ
      exact refusal_s (hQ u Fr.rf h)
  · rw [if_neg (fun z => c z.1)] at hQ
    exact refusal_s (hQ u Fr.rf h)
theorem r_sure {A u : gg_M} {a b : Int32} {Q : Int64 → gg_M → Prop} (hA : WF A) (h : RI A u) (hQ : ∀ v, Fr PR u v → RI A v → Q (q_sure A a b) v) : w_X11_sure a b u Q := by
  unfold w_X11_sure w_X11_sure_c19
  unfold q_sure at hQ
  refine in_s 10 (le9 a) (fun c => t1 ?_) (fun c => t0 ?_)
  · refine in_s 2 (le1 b) (fun c2 => y1 ?_) (fun c2 => y0 ?_)
    · rw [if_pos ⟨c, c2⟩] at hQ
      obtain ⟨m, hm, rfl⟩ := rng 10 rfl (by decide) c
      refine rlays_s hA h fun v hF hI hL => ?_
      have ht := xTot_le hA
      rw [hL.tn hA]
      refine ⟨fun c4 => thoseA_s hA hL fun R hR => goA_s hA hI hL hm hR fun v1 hF1 hI1 hL1 hs => ?_, fun c4 => no_s ?_⟩
      · unfold w_X11_sure_c59
        refine gl_up 7 (fun j q => q = (lN (fb_sm (xsu A (nI m)) j), nI j, v1)) 0 (by decide) rfl ?_
        rintro j q hj rfl k hk
        unfold b_X11_sure_c59
        dsimp only
        refine ⟨fun c => ?_, fun c => ?_⟩
        · have c : nI 7 ≤ nI j := c
          rw [nI_leI (by decide) (by omega)] at c
          obtain rfl : j = 7 := by omega
          have hl := xsu_le hA (nI m) (m := 7) (by omega)
          rw [hL1.2.2.2]
          refine lowest_s (by omega) (by omega) (by omega) ?_
          have hq := hQ v1 ((hF.mono PLy_R).tr (hF1.mono (PV_R 0))) hI1
          rwa [if_neg c4] at hq
        · have c : ¬ nI 7 ≤ nI j := c
          rw [nI_leI (by decide) (by omega)] at c
          refine thoseA_s hA hL1 fun R2 hR2 => groupBy_s (l := 0) rfl (by decide) hR2 hs fun R3 hR3 => ?_
          have hR3 : ∀ s, s < 32 → bt R3 s = xP A (nI m) j s := hR3
          unfold w_X11_sure_c85
          refine gl_up 32 (fun i q => q = (lN (mxs (hvy (xP A (nI m) j) (xW A)) i), nI i, v1)) 0 (by decide) rfl ?_
          rintro i q hi rfl kk hkk
          unfold b_X11_sure_c85 w_X11_sure_c125 w_X11_sure_c127
          dsimp only
          refine ⟨fun c5 => ?_, fun c5 => p_X11_isIn ?_⟩
          · have c5 : nI 32 ≤ nI i := c5
            rw [nI_leI (by decide) (by omega)] at c5
            obtain rfl : i = 32 := by omega
            rintro _ rfl
            rw [nI_1, lN_add]
            exact hk (by omega) _ rfl
          · have c5 : ¬ nI 32 ≤ nI i := c5
            rw [nI_leI (by decide) (by omega)] at c5
            have es : mxs (hvy (xP A (nI m) j) (xW A)) (i + 1) = if mxs (hvy (xP A (nI m) j) (xW A)) i < hvy (xP A (nI m) j) (xW A) i then hvy (xP A (nI m) j) (xW A) i else mxs (hvy (xP A (nI m) j) (xW A)) i := rfl
            have hl2 := hvy_le (g := xP A (nI m) j) (xW_le hA) i
            have hw := xW_le hA i
            rw [nI_1]
            cases hg : xP A (nI m) j i
            · rw [if_neg (fun z => by have := (bx_s R3 (by omega)).mp z; rw [hR3 i (by omega), hg] at this; cases this)]
              have e0 : hvy (xP A (nI m) j) (xW A) i = 0 := by unfold hvy; rw [hg]; rfl
              refine t0 (hkk (by omega) _ ?_)
              rw [es, e0, if_neg (by omega)]
            · rw [if_pos ((bx_s R3 (by omega)).mpr (by rw [hR3 i (by omega)]; exact hg))]
              have e0 : hvy (xP A (nI m) j) (xW A) i = xW A i := by unfold hvy; rw [hg]; rfl
              refine t1 ⟨vp_in_nI (by omega) (by decide), ?_⟩
              rw [nI_clamp (by omega), hL1.2.2.1 i (by omega), lg_le (by omega) (by omega)]
              refine ⟨fun c6 => hkk (by omega) _ ?_, fun c6 => ⟨vp_in_nI (by omega) (by decide), hkk (by omega) _ ?_⟩⟩
              · rw [es, e0, if_neg (by omega)]
              · rw [es, e0, if_pos (by omega)]
      · have hq := hQ v (hF.mono PLy_R) hI
        rwa [if_pos c4] at hq
    · rw [if_neg (fun z => c2 z.2)] at hQ
      exact no_s (hQ u Fr.rf h)
  · rw [if_neg (fun z => c z.1)] at hQ
    exact no_s (hQ u Fr.rf h)
/-! the best -/
theorem gsm_pos (w : Nat → Nat) (m : Nat) : gsm (fun s => decide (0 < w s)) w m = fb_sm w m := fb_sm_cong fun s _ => by
  by_cases c : 0 < w s
  · simp [c]
  · simp only [decide_eq_true_eq, if_neg c]
    omega
theorem gsm_xG (A : gg_M) : gsm (xG A) (xW A) 32 = xTot A := gsm_pos _ _
theorem fk_le {A : gg_M} (n : Nat) (a : Nat) : fk (xmv A) (xW A) n (xG A) (xS A) (xTot A) (xfl A) a ≤ xTot A := by
  unfold fk
  split
  · rw [← gsm_xG]
    exact av_le _ _ _ _ _ _
  · exact Nat.le_refl _
theorem xbw_le {A : gg_M} (n : Nat) : xbw A n ≤ xTot A := mxs_le fun a _ => fk_le n a
theorem ams_le (f : Nat → Nat) : ∀ k, ams f k ≤ k
  | 0 => Nat.le_refl _
  | k + 1 => by
    have := ams_le f k
    show (if mxs f k < f k then k else ams f k) ≤ _
    split <;> omega
theorem xba_le {A : gg_M} (n : Nat) : xba A n ≤ 10 := ams_le _ _
def qn_best (A : gg_M) (n : Nat) (b : Int32) : Int64 := if xTot A = 0 then NO (-3) else if b = 2 then (nI (xba A n)).toInt64 else tld (xbw A n) (xTot A) b
def q_best (A : gg_M) (a b : Int32) : Int64 := if (1 ≤ a ∧ a ≤ 3) ∧ 0 ≤ b ∧ b < 3 then qn_best A (a.toNatClampNeg - 1) b else NO (-2)
def PBs (t j : Nat) : Bool := PW 0 t j || t == 26 || t == 27
theorem PBs_C (t j : Nat) (h : PC t j = false) : PBs t j = false := by
  simp [PC] at h
  simp [PBs, PW]
  omega
theorem rng13 {a : Int32} (h1 : ¬ a < 1) (h3 : ¬ 3 < a) : ∃ n, n < 3 ∧ a = nI (n + 1) := by
  obtain ⟨k, hk, e⟩ := rng (a := a) (b := 4) 4 rfl (by decide) ⟨by grind, by grind⟩
  have h1 : ¬ a < nI 1 := h1
  rw [e, nI_ltI (by omega) (by decide)] at h1
  exact ⟨k - 1, by omega, by rw [e]; congr 1; omega⟩
theorem c_best {A u : gg_M} {a b : Int32} {Q : Int64 → gg_M → Prop} (hA : WF A) (h : CI A u) (hQ : ∀ v, Fr PC u v → CI A v → Q (q_best A a b) v) : w_X10_best a b u Q := by
  unfold w_X10_best w_X10_best_c18
  unfold q_best at hQ
  have hbad : ¬ ((1 ≤ a ∧ a ≤ 3) ∧ 0 ≤ b ∧ b < 3) → w_X10_refusal (-2) u (fun v7 u6 => Q v7 u6) := fun z => by
    rw [if_neg z] at hQ
    exact refusal_s (hQ u Fr.rf h)
  refine ⟨fun c => hbad (fun z => by have := z.1.1; grind), fun c => ⟨fun c2 => hbad (fun z => by have := z.1.2; grind), fun c2 => ?_⟩⟩
  refine isB_s (fun c3 => y1 ?_) (fun c3 => y0 (hbad (fun z => c3 z.2)))
  rw [if_pos ⟨⟨by grind, by grind⟩, c3⟩] at hQ
  obtain ⟨n, hn, rfl⟩ := rng13 c c2
  rw [nI_clamp (by omega), Nat.add_sub_cancel] at hQ
  unfold qn_best at hQ
  have ht := xTot_le hA
  refine known_s hA h fun v hF hI hK => ⟨rfl, ?_⟩
  rw [hK.tn hA, nI_clamp (by omega)]
  have fin : 0 < xTot A → ∀ v1, Fr PC u v1 → CI A v1 → KBf A v1 → v1.1 26 (n + 1) = nI (xba A n) → v1.1 27 (n + 1) = nI (xbw A n) → w_X10_best_c88 (nI (n + 1)) b v1 Q := by
    intro hp v1 hF1 hI1 hK1 h26 h27
    have hq := hQ v1 hF1 hI1
    rw [if_neg (by omega)] at hq
    unfold w_X10_best_c88 w_X10_best_c119
    have hb := xbw_le (A := A) n
    rw [hK1.tl hA, nI_clamp (by omega), h26, h27, nI_l (n := xbw A n) (by omega)]
    refine ⟨fun c4 => ⟨vp_in_nI (by omega) (by decide), told_s (by omega) hp (by omega) ?_⟩, fun c4 => ⟨vp_in_nI (by omega) (by decide), ?_⟩⟩
    · rwa [if_neg c4] at hq
    · rwa [if_pos c4] at hq
  refine ⟨fun c4 => ⟨vp_in_nI (by omega) (by decide), fun c5 => ?_, fun c5 => ?_⟩, fun c4 => refusal_s ?_⟩
  · rcases hK.2.2.2.2.2 (by omega) n hn with e | e
    · exact absurd e.1 c5
    · exact fin (by omega) v (hF.mono PLn_C) hI hK e.1 e.2
  · rcases hK.2.2.2.2.2 (by omega) n hn with e | e
    · have e4 : (4 : Nat) = n + 1 + (3 - n) := by omega
      rw [e4]
      refine wrun_s (xW_le hA) n (3 - n) 0 (by omega) _ _ (xG A) (xS A) v _ hI.1.M hK.2.2.2.1 hK.2.2.1 (by rw [gsm_xG]; exact hK.2.2.2.2.1) (fun s hs _ => ⟨?_, dz_O_mv hI.1.2.1.2 (xS_O hA hs)⟩) fun v1 hF1 h28 => ?_
      · rw [show 32 * 0 + s = s by omega]
        exact hK.2.1 s hs
      · have ef : fk (xmv A) (xW A) n (xG A) (xS A) (xTot A) (xfl A) = av (xmv A) (xW A) n (xG A) (xS A) := by
          funext x
          unfold fk
          rw [if_pos e.2]
        have ew : vk (v.1 7) (xW A) (n + 1) (xG A) (xS A) = xbw A n := by
          rw [vk_mv hI.1.2.1.2, vk_s]
          unfold xbw
          rw [ef]
        have ea : ams (av (v.1 7) (xW A) n (xG A) (xS A)) 10 = xba A n := by
          rw [av_mv hI.1.2.1.2]
          unfold xba
          rw [ef]
        rw [ew]
        rw [ea] at h28
        refine ⟨vp_in_nI (by omega) (by omega), ?_⟩
        rintro _ rfl
        refine ⟨vp_in_nI (by omega) (by omega), ?_⟩
        rintro _ rfl
        rw [gi_nt _ _ _ _ (show (28 : Nat) ≠ 27 by decide), h28]
        have hF2 : Fr PBs v (gg_wI (gg_wI v1 27 (n + 1) (nI (xbw A n))) 26 (n + 1) (nI (xba A n))) := by
          refine Fr.wI (Fr.wI (hF1.mono fun t j q => ?_) (by simp [PBs])) (by simp [PBs])
          simp [PBs] at q
          exact q.1.1
        have r26 : ∀ j, j ≠ n + 1 → v1.1 26 j = v.1 26 j ∧ v1.1 27 j = v.1 27 j := fun j _ => ⟨(hF1 26 j (by simp [PW])).1, (hF1 27 j (by simp [PW])).1⟩
        generalize hv2 : gg_wI (gg_wI v1 27 (n + 1) (nI (xbw A n))) 26 (n + 1) (nI (xba A n)) = v2 at hF2 ⊢
        have h26 : v2.1 26 (n + 1) = nI (xba A n) := by rw [← hv2]; exact gi_eq _ _ _ _
        have h27 : v2.1 27 (n + 1) = nI (xbw A n) := by rw [← hv2, gi_nt _ _ _ _ (show (27 : Nat) ≠ 26 by decide)]; exact gi_eq _ _ _ _
        have o26 : ∀ j, j ≠ n + 1 → v2.1 26 j = v.1 26 j ∧ v2.1 27 j = v.1 27 j := fun j hj => by
          rw [← hv2, gi_ne _ _ _ _ hj, gi_nt _ _ _ _ (show (26 : Nat) ≠ 27 by decide), gi_nt _ _ _ _ (show (27 : Nat) ≠ 26 by decide), gi_ne _ _ _ _ hj]
          exact r26 j hj
        have hK2 : KBf A v2 := by
          obtain ⟨b1, b2, b3, b4, b5, b6⟩ := hK
          refine ⟨?_, fun s hs => ?_, fun s hs => ?_, fun s hs => ?_, ?_, fun hp m hm => ?_⟩
          · rw [(hF2 15 8 (by simp [PBs, PW])).1]; exact b1
          · rw [(hF2 16 s (by simp [PBs, PW]; omega)).2]; exact b2 s hs
          · rw [(hF2 17 s (by simp [PBs, PW])).1]; exact b3 s hs
          · rw [(hF2 15 9 (by simp [PBs, PW])).1]; exact b4 s hs
          · rw [(hF2 15 10 (by simp [PBs, PW])).1]; exact b5
          · by_cases em : m = n
            · subst em
              exact Or.inr ⟨h26, h27⟩
            · rw [(o26 (m + 1) (by omega)).1, (o26 (m + 1) (by omega)).2]
              exact b6 hp m hm
        refine fin (by omega) v2 ((hF.mono PLn_C).tr (hF2.mono PBs_C)) ⟨hI.1.fr hF2 (fun t j q => by simp [kc] at q; simp [PBs, PW]; omega), Or.inr hK2, hI.2.2.1.fr hF2 (fun _ => by simp [PBs, PW]) (fun _ => by simp [PBs, PW]), hI.2.2.2.fr hF2 (by simp [PBs, PW]) (fun _ => by simp [PBs, PW])⟩ hK2 h26 h27
    · rw [e.1] at c5
      have := xba_le (A := A) n
      have h0 : (0 : Int32) ≤ nI (xba A n) := nI_pos' (by omega)
      rw [c5] at h0
      exact absurd h0 (by decide)
  · have hq := hQ v (hF.mono PLn_C) hI
    rwa [if_pos c4] at hq
theorem alr_c {g : Nat → Bool} {r q : Nat → Int32} : ∀ {m : Nat}, (∀ s, s < m → r s = q s) → alr g r m = alr g q m
  | 0, _ => rfl
  | m + 1, h => by
    show (alr g r m && (!(g m) || decide (r m = 1))) = (alr g q m && (!(g m) || decide (q m = 1)))
    rw [alr_c (fun s hs => h s (by omega)), h m (by omega)]
theorem r_bestNow {A u : gg_M} {n : Nat} {b : Int32} {Q : Int64 → gg_M → Prop} (hA : WF A) (h : RI A u) (hn : n < 3) (hQ : ∀ v, Fr PR u v → RI A v → Q (qn_best A n b) v) : w_X11_bestNow (nI (n + 1)) b u Q := by
  unfold w_X11_bestNow
  unfold qn_best at hQ
  refine rlays_s hA h fun v hF hI hL => ?_
  have ht := xTot_le hA
  rw [hL.tn hA]
  refine ⟨fun c4 => thoseA_s hA hL fun R hR => best30_s hR ?_, fun c4 => no_s ?_⟩
  · rw [alr_c (q := fun s => xS A s 7) (fun s hs => hL.2.1 s hs 7 (by decide))]
    refine best90_s (tot := xTot A) hn hA.M (xW_le hA) hR (hL.lv hA) hL.2.2.2 ht fun v1 hF1 => ?_
    have hq := hQ v1 ((hF.mono PLy_R).tr (hF1.mono (PV_R 0))) (hI.fr hF1 PV_rc)
    rw [if_neg c4] at hq
    rw [(hL.fr hF1).2.2.2]
    unfold w_X11_bestNow_c279
    have hb := xbw_le (A := A) n
    refine ⟨fun c5 => ?_, fun c5 => ?_⟩
    · rw [if_neg c5] at hq
      exact lowest_s (show xbw A n ≤ 2 ^ 34 by omega) (by omega) (by omega) hq
    · rw [if_pos c5] at hq
      exact hq
  · have hq := hQ v (hF.mono PLy_R) hI
    rwa [if_pos c4] at hq
theorem r_best {A u : gg_M} {a b : Int32} {Q : Int64 → gg_M → Prop} (hA : WF A) (h : RI A u) (hQ : ∀ v, Fr PR u v → RI A v → Q (q_best A a b) v) : w_X11_best a b u Q := by
  unfold w_X11_best w_X11_best_c27 w_X11_best_c32
  unfold q_best at hQ
  refine p_X11_in ?_
  by_cases c : 1 ≤ a ∧ a ≤ 3
  · rw [if_pos c]
    refine t1 (in_s 3 (le2 b) (fun c2 => t1 ?_) (fun c2 => t0 ?_))
    · rw [if_pos ⟨c, c2⟩] at hQ
      obtain ⟨n, hn, rfl⟩ := rng13 (a := a) (by have := c.1; grind) (by have := c.2; grind)
      rw [nI_clamp (by omega), Nat.add_sub_cancel] at hQ
      exact r_bestNow hA h hn hQ
    · rw [if_neg (fun z => c2 z.2)] at hQ
      exact no_s (hQ u Fr.rf h)
  · rw [if_neg c]
    rw [if_neg (fun z => c z.1)] at hQ
    exact t0 (no_s (hQ u Fr.rf h))
