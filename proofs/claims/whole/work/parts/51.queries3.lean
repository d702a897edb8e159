/-! what an act would show -/
theorem gS_mv {mv nv : Nat → Int32} (h : ek7 mv nv) (S : Nat → Nat → Int32) (g : Nat → Bool) (a : Int32) (x : Nat) : gS mv S g a x = gS nv S g a x := by
  funext s
  unfold gS
  rw [(dz_mv h a).1]
theorem vk_mv {mv nv : Nat → Int32} (h : ek7 mv nv) (w : Nat → Nat) : ∀ n g S, vk mv w n g S = vk nv w n g S
  | 0, _, _ => rfl
  | n + 1, g, S => by
    unfold vk
    congr 1
    funext a
    rw [gS_mv h]
    congr 2
    funext x
    split
    · rfl
    · rw [gS_mv h, vk_mv h w n, show (fun s => dz_n mv (S s) (nI a)) = fun s => dz_n nv (S s) (nI a) from funext fun s => (dz_mv h (nI a)).2]
theorem av_mv {mv nv : Nat → Int32} (h : ek7 mv nv) (w : Nat → Nat) (n : Nat) (g : Nat → Bool) (S : Nat → Nat → Int32) : av mv w n g S = av nv w n g S := by
  funext a
  unfold av
  rw [gS_mv h]
  congr 2
  funext x
  unfold ak
  split
  · rfl
  · rw [gS_mv h, vk_mv h w n, show (fun s => dz_n mv (S s) (nI a)) = fun s => dz_n nv (S s) (nI a) from funext fun s => (dz_mv h (nI a)).2]
def xP (A : gg_M) (a : Int32) (x : Nat) : Nat → Bool := gS (xmv A) (xS A) (xG A) a x
theorem CI.pt {A u v : gg_M} (h : CI A u) (hF : Fr (PPt 0) u v) : CI A v :=
  ⟨h.1.fr hF (fun t j q => by simp [kc] at q; simp [PPt]; omega), h.2.1.fr hF (fun j _ => by simp [PPt]) (fun j hj => by simp [PPt]; omega) (fun _ => rfl) (fun _ => rfl) (fun _ => rfl), h.2.2.1.fr hF (fun _ => rfl) (fun _ => rfl), h.2.2.2.fr hF rfl (fun _ => rfl)⟩
theorem KBf.pt {A u v : gg_M} (h : KBf A u) (hF : Fr (PPt 0) u v) : KBf A v := h.fr hF (fun j _ => by simp [PPt]) (fun j hj => by simp [PPt]; omega) (fun _ => rfl) (fun _ => rfl) (fun _ => rfl)
theorem partA_s {A u : gg_M} {a : Int32} {Q : gg_M → Prop} (hA : WF A) (h : CI A u) (hK : KBf A u) (h0 : 0 ≤ a) (h1 : a < 10)
    (hQ : ∀ v, Fr (PPt 0) u v → CI A v → KBf A v → (∀ x, x < 7 → ∀ s, s < 32 → bt (v.1 19 x) s = xP A a x s) → (∀ x, x < 7 → v.1 23 x = nI (gsm (xP A a x) (xW A) 32)) → Q v) : w_X1_part (u.1 15 9) a 0 u Q := by
  refine part_s (d := 0) (g := xG A) (w := xW A) (S := xS A) (by decide) h0 h1 h.1.M hK.2.2.2.1 hK.2.2.1 (xW_le hA) (fun s hs _ => ⟨?_, dz_O_mv h.1.2.1.2 (xS_O hA hs)⟩) fun v hF _ H2 H3 => ?_
  · rw [show 32 * 0 + s = s by omega]
    exact hK.2.1 s hs
  · refine hQ v hF (h.pt hF) (hK.pt hF) (fun x hx s hs => ?_) (fun x hx => ?_)
    · unfold xP
      rw [← gS_mv h.1.2.1.2]
      exact H2 x hx s hs
    · unfold xP
      rw [← gS_mv h.1.2.1.2]
      exact H3 x hx
theorem PV_rc (t j : Nat) (q : rc t j = true) : PV 0 t j = false := by
  simp [rc] at q
  simp [PV]
  omega
/-- an act is done with all that are left -/
theorem goA_s {A u : gg_M} {m : Nat} {G : Int32} {Q : gg_M → Prop} (hA : WF A) (h : RI A u) (hL : LY A u) (hm : m < 10) (hG : ∀ s, s < 32 → bt G s = xG A s)
    (hQ : ∀ v, Fr (PV 0) u v → RI A v → LY A v → (∀ s, s < 32 → xG A s = true → v.1 56 (32 * 0 + s) = dz_s (xmv A) (xS A s) (nI m)) → Q v) : w_X11_goesOn 0 G (nI m) u Q :=
  go_s (l := 0) (by decide) hm hA.M hG (hL.lv hA) fun v hF _ hs _ => hQ v hF (h.fr hF PV_rc) (hL.fr hF) hs
theorem thoseA_s {A u : gg_M} {Q : Int32 → gg_M → Prop} (hA : WF A) (hL : LY A u) (hQ : ∀ R, (∀ s, s < 32 → bt R s = xG A s) → Q R u) : w_X11_those u Q := those_s hL.2.2.1 (xW_le hA) hQ
def qn_chance (A : gg_M) (a : Int32) (x : Nat) (b : Int32) : Int64 := if xTot A = 0 then NO (-3) else tld (gsm (xP A a x) (xW A) 32) (xTot A) b
def q_chance (A : gg_M) (a x b : Int32) : Int64 := if (0 ≤ a ∧ a < 10) ∧ (0 ≤ x ∧ x < 7) ∧ 0 ≤ b ∧ b < 2 then qn_chance A a x.toNatClampNeg b else NO (-2)
theorem c_chance {A u : gg_M} {a x b : Int32} {Q : Int64 → gg_M → Prop} (hA : WF A) (h : CI A u) (hQ : ∀ v, Fr PC u v → CI A v → Q (q_chance A a x b) v) : w_X10_chance a x b u Q := by
  unfold w_X10_chance w_X10_chance_c26
  unfold q_chance qn_chance at hQ
  refine isB_s (fun c => t1 ?_) (fun c => t0 ?_)
  · refine isB_s (fun c2 => t1 ?_) (fun c2 => t0 ?_)
    · refine isB_s (fun c3 => y1 ?_) (fun c3 => y0 ?_)
      · rw [if_pos ⟨c, c2, c3⟩] at hQ
        refine known_s hA h fun v hF hI hK => ⟨rfl, ?_⟩
        obtain ⟨y, hy, rfl⟩ := rng 7 rfl (by decide) c2
        rw [nI_clamp (by omega)] at hQ
        have ht := xTot_le hA
        have hg : gsm (xP A a y) (xW A) 32 ≤ xTot A := gsm_mono
        rw [hK.tn hA]
        refine ⟨fun c4 => partA_s hA hI hK c.1 c.2 fun v1 hF1 hI1 hK1 _ H3 => ⟨vp_in_nI hy (by decide), ?_⟩, fun c4 => refusal_s ?_⟩
        · rw [hK1.tl hA, nI_clamp (by omega), H3 y hy, nI_l (by omega)]
          refine told_s (by omega) (by omega) (by omega) ?_
          have hq := hQ v1 ((hF.mono PLn_C).tr (hF1.mono PPt_C)) hI1
          rwa [if_neg c4] at hq
        · have hq := hQ v (hF.mono PLn_C) hI
          rwa [if_pos c4] at hq
      · rw [if_neg (fun z => c3 z.2.2)] at hQ
        exact refusal_s (hQ u Fr.rf h)
    · rw [if_neg (fun z => c2 z.2.1)] at hQ
      exact refusal_s (hQ u Fr.rf h)
  · rw [if_neg (fun z => c z.1)] at hQ
    exact refusal_s (hQ u Fr.rf h)
theorem r_chanceNow {A u : gg_M} {m y : Nat} {b : Int32} {Q : Int64 → gg_M → Prop} (hA : WF A) (h : RI A u) (hm : m < 10) (hQ : ∀ v, Fr PR u v → RI A v → Q (qn_chance A (nI m) y b) v) : w_X11_chanceNow (nI m) (nI y) b u Q := by
  unfold w_X11_chanceNow
  unfold qn_chance at hQ
  refine rlays_s hA h fun v hF hI hL => ?_
  have ht := xTot_le hA
  have hg : gsm (xP A (nI m) y) (xW A) 32 ≤ xTot A := gsm_mono
  rw [hL.tn hA]
  refine ⟨fun c4 => thoseA_s hA hL fun R hR => goA_s hA hI hL hm hR fun v1 hF1 hI1 hL1 hs => thoseA_s hA hL1 fun R2 hR2 => ?_, fun c4 => no_s ?_⟩
  · refine groupBy_s (l := 0) rfl (by decide) hR2 hs fun R3 hR3 => mweightOf_s (g := xP A (nI m) y) hR3 hL1.2.2.1 ?_
    rw [hL1.2.2.2]
    refine lowest_s (by omega) (by omega) (by omega) ?_
    have hq := hQ v1 ((hF.mono PLy_R).tr (hF1.mono (PV_R 0))) hI1
    rwa [if_neg c4] at hq
  · have hq := hQ v (hF.mono PLy_R) hI
    rwa [if_pos c4] at hq
theorem r_chance {A u : gg_M} {a x b : Int32} {Q : Int64 → gg_M → Prop} (hA : WF A) (h : RI A u) (hQ : ∀ v, Fr PR u v → RI A v → Q (q_chance A a x b) v) : w_X11_chance a x b u Q := by
  unfold w_X11_chance w_X11_chance_c39 w_X11_chance_c44
  unfold q_chance at hQ
  refine in_s 10 (le9 a) (fun c => t1 ?_) (fun c => t0 ?_)
  · refine in_s 7 (le6 x) (fun c2 => t1 ?_) (fun c2 => t0 ?_)
    · refine in_s 2 (le1 b) (fun c3 => t1 ?_) (fun c3 => t0 ?_)
      · rw [if_pos ⟨c, c2, c3⟩] at hQ
        obtain ⟨m, hm, rfl⟩ := rng 10 rfl (by decide) c
        obtain ⟨y, hy, rfl⟩ := rng 7 rfl (by decide) c2
        rw [nI_clamp (by omega)] at hQ
        exact r_chanceNow hA h hm hQ
      · rw [if_neg (fun z => c3 z.2.2)] at hQ
        exact no_s (hQ u Fr.rf h)
    · rw [if_neg (fun z => c2 z.2.1)] at hQ
      exact no_s (hQ u Fr.rf h)
  · rw [if_neg (fun z => c z.1)] at hQ
    exact no_s (hQ u Fr.rf h)
/-! into how many it parts them -/
def xE (A : gg_M) (a : Int32) (x : Nat) : Bool := decide (0 < fb_ct (xP A a x) 32)
def q_parts (A : gg_M) (a : Int32) : Int32 := if 0 ≤ a ∧ a < 10 then (if xTot A = 0 then -3 else nI (fb_ct (xE A a) 7)) else -2
theorem xE_0 {A : gg_M} {a g : Int32} {x : Nat} (h : ∀ s, s < 32 → bt g s = xP A a x s) : g = 0 ↔ xE A a x = false := by
  rw [bx_z0]
  unfold xE
  rw [decide_eq_false_iff_not, Nat.not_lt, Nat.le_zero, fb_ct_zero]
  exact ⟨fun q s hs => by rw [← h s hs]; exact q s hs, fun q s hs => by rw [h s hs]; exact q s hs⟩
theorem c_parts {A u : gg_M} {a : Int32} {Q : Int32 → gg_M → Prop} (hA : WF A) (h : CI A u) (hQ : ∀ v, Fr PC u v → CI A v → Q (q_parts A a) v) : w_X10_parts a u Q := by
  unfold w_X10_parts
  unfold q_parts at hQ
  refine isB_s (fun c => y1 ?_) (fun c => y0 ?_)
  · rw [if_pos c] at hQ
    refine known_s hA h fun v hF hI hK => ⟨rfl, ?_⟩
    rw [hK.tn hA]
    refine ⟨fun c4 => partA_s hA hI hK c.1 c.2 fun v1 hF1 hI1 hK1 H2 _ => ?_, fun c4 => ?_⟩
    · unfold w_X10_parts_c46
      refine gl_up 7 (fun m q => q = (nI (fb_ct (xE A a) m), nI m, v1)) 0 (by decide) rfl ?_
      rintro m q hm rfl k hk
      unfold b_X10_parts_c46 w_X10_parts_c71
      dsimp only
      refine ⟨fun c => ?_, fun c => ?_⟩
      · have c : nI 7 ≤ nI m := c
        rw [nI_leI (by decide) (by omega)] at c
        obtain rfl : m = 7 := by omega
        have hq := hQ v1 ((hF.mono PLn_C).tr (hF1.mono PPt_C)) hI1
        rwa [if_neg c4] at hq
      · have c : ¬ nI 7 ≤ nI m := c
        rw [nI_leI (by decide) (by omega)] at c
        rw [nI_1, nI_clamp (by omega), xE_0 (H2 m (by omega))]
        refine ⟨vp_in_nI (by omega) (by decide), fun c5 => ?_, fun c5 => ?_⟩
        · rintro _ rfl
          refine hk (by omega) _ ?_
          rw [fb_ct_succ, c5, show (0 : Int32) = nI 0 from rfl, nI_add]
          rfl
        · rintro _ rfl
          refine hk (by omega) _ ?_
          have : xE A a m = true := by
            cases hh : xE A a m
            · exact absurd hh c5
            · rfl
          rw [fb_ct_succ, this, nI_1]
          rfl
    · have hq := hQ v (hF.mono PLn_C) hI
      rwa [if_pos c4] at hq
  · rw [if_neg c] at hQ
    exact hQ u Fr.rf h
theorem r_partsNow {A u : gg_M} {m : Nat} {Q : Int32 → gg_M → Prop} (hA : WF A) (h : RI A u) (hm : m < 10) (hQ : ∀ v, Fr PR u v → RI A v → Q (if xTot A = 0 then -3 else nI (fb_ct (xE A (nI m)) 7)) v) : w_X11_partsNow (nI m) u Q := by
  unfold w_X11_partsNow
  refine rlays_s hA h fun v hF hI hL => ?_
  rw [hL.tn hA]
  refine ⟨fun c4 => thoseA_s hA hL fun R hR => goA_s hA hI hL hm hR fun v1 hF1 hI1 hL1 hs => ?_, fun c4 => ?_⟩
  · unfold w_X11_partsNow_c30
    refine gl_up 7 (fun j q => q = (nI (fb_ct (xE A (nI m)) j), nI j, v1)) 0 (by decide) rfl ?_
    rintro j q hj rfl k hk
    unfold b_X11_partsNow_c30 w_X11_partsNow_c55
    dsimp only
    refine ⟨fun c => ?_, fun c => ?_⟩
    · have c : nI 7 ≤ nI j := c
      rw [nI_leI (by decide) (by omega)] at c
      obtain rfl : j = 7 := by omega
      have hq := hQ v1 ((hF.mono PLy_R).tr (hF1.mono (PV_R 0))) hI1
      rwa [if_neg c4] at hq
    · have c : ¬ nI 7 ≤ nI j := c
      rw [nI_leI (by decide) (by omega)] at c
      refine thoseA_s hA hL1 fun R2 hR2 => groupBy_s (l := 0) rfl (by decide) hR2 hs fun R3 hR3 => ?_
      have hz := xE_0 (A := A) (a := nI m) (x := j) (g := R3) hR3
      rw [hz, nI_1]
      refine ⟨fun c5 => ?_, fun c5 => ?_⟩
      · rintro _ rfl
        refine hk (by omega) _ ?_
        rw [fb_ct_succ, c5, show (0 : Int32) = nI 0 from rfl, nI_add]
        rfl
      · rintro _ rfl
        refine hk (by omega) _ ?_
        have : xE A (nI m) j = true := by
          cases hh : xE A (nI m) j
          · exact absurd hh c5
          · rfl
        rw [fb_ct_succ, this, nI_1]
        rfl
  · have hq := hQ v (hF.mono PLy_R) hI
    rwa [if_pos c4] at hq
theorem r_parts {A u : gg_M} {a : Int32} {Q : Int32 → gg_M → Prop} (hA : WF A) (h : RI A u) (hQ : ∀ v, Fr PR u v → RI A v → Q (q_parts A a) v) : w_X11_parts a u Q := by
  unfold w_X11_parts w_X11_parts_c20
  unfold q_parts at hQ
  refine in_s 10 (le9 a) (fun c => t1 ?_) (fun c => t0 ?_)
  · rw [if_pos c] at hQ
    obtain ⟨m, hm, rfl⟩ := rng 10 rfl (by decide) c
    exact r_partsNow hA h hm hQ
  · rw [if_neg c] at hQ
    exact hQ u Fr.rf h
