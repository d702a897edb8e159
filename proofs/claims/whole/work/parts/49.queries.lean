/-! what is asked of the belief -/
theorem isB_s {a b : Int32} {u : gg_M} {Q : Int32 → gg_M → Prop} (h1 : 0 ≤ a ∧ a < b → Q 1 u) (h0 : ¬ (0 ≤ a ∧ a < b) → Q 0 u) : w_X10_isBelow a b u Q := by
  refine p_X10_isBelow ?_
  by_cases c : 0 ≤ a ∧ a < b
  · rw [if_pos c]; exact h1 c
  · rw [if_neg c]; exact h0 c
theorem in_s {a c : Int32} (b : Int32) {u : gg_M} {Q : Int32 → gg_M → Prop} (hc : a ≤ c ↔ a < b) (h1 : 0 ≤ a ∧ a < b → Q 1 u) (h0 : ¬ (0 ≤ a ∧ a < b) → Q 0 u) : w_X11_in a 0 c u Q := by
  refine p_X11_in ?_
  by_cases q : 0 ≤ a ∧ a < b
  · rw [if_pos ⟨q.1, hc.mpr q.2⟩]; exact h1 q
  · rw [if_neg (fun z => q ⟨z.1, hc.mp z.2⟩)]; exact h0 q
theorem t1 {P R : Prop} (h : R) : ((1 : Int32) = 0 → P) ∧ (¬ (1 : Int32) = 0 → R) := ⟨fun z => absurd z (by decide), fun _ => h⟩
theorem t0 {P R : Prop} (h : P) : ((0 : Int32) = 0 → P) ∧ (¬ (0 : Int32) = 0 → R) := ⟨fun _ => h, fun z => absurd rfl z⟩
theorem y1 {P R : Prop} (h : R) : (¬ (1 : Int32) = 0 → R) ∧ ((1 : Int32) = 0 → P) := ⟨fun _ => h, fun z => absurd z (by decide)⟩
theorem y0 {P R : Prop} (h : P) : (¬ (0 : Int32) = 0 → R) ∧ ((0 : Int32) = 0 → P) := ⟨fun z => absurd rfl z, fun _ => h⟩
theorem rng {a b : Int32} (n : Nat) (hb : b = nI n) (hn : n < 2 ^ 31) (h : 0 ≤ a ∧ a < b) : ∃ k, k < n ∧ a = nI k := by
  obtain ⟨k, hk, e⟩ := nI_of (x := a) (by have := h.1; grind)
  refine ⟨k, ?_, e⟩
  have h1 := h.2
  rw [e, hb, nI_ltI hk hn] at h1
  exact h1
def NO (c : Int32) : Int64 := ((-9223372036854775808) : Int64) - c.toInt64
theorem no_s {c : Int32} {u : gg_M} {Q : Int64 → gg_M → Prop} (h : Q (NO c) u) : w_X11_no c u Q := h
theorem refusal_s {c : Int32} {u : gg_M} {Q : Int64 → gg_M → Prop} (h : Q (NO c) u) : w_X10_refusal c u Q := h
theorem PLn_C (t j : Nat) (h : PC t j = false) : PLn t j = false := by
  simp [PC] at h
  simp [PLn]
  omega
theorem PLy_R (t j : Nat) (h : PR t j = false) : PLy t j = false := by
  simp [PR] at h
  simp [PLy]
  omega
theorem PV_R (l t j : Nat) (h : PR t j = false) : PV l t j = false := by
  simp [PR] at h
  simp [PV]
  omega
theorem PPt_C (t j : Nat) (h : PC t j = false) : PPt 0 t j = false := by
  simp [PC] at h
  simp [PPt]
  omega
theorem KBf.tn {A u : gg_M} (h : KBf A u) (hA : WF A) : u.1 15 10 = 0 ↔ xTot A = 0 := by
  rw [h.2.2.2.2.1, show (0 : Int32) = nI 0 from rfl, nI_eq (by have := xTot_le hA; omega) (by decide)]
theorem KBf.tl {A u : gg_M} (h : KBf A u) (hA : WF A) : (u.1 15 10).toInt64 = lN (xTot A) := by
  rw [h.2.2.2.2.1, nI_l (by have := xTot_le hA; omega)]
theorem LY.tn {A u : gg_M} (h : LY A u) (hA : WF A) : lg_cmp (u.2 1 12) 0 = 0 ↔ xTot A = 0 := by
  rw [h.2.2.2, lg_e0 (by have := xTot_le hA; omega)]
theorem LY.fr {A u v : gg_M} (h : LY A u) (hF : Fr (PV 0) u v) : LY A v := by
  refine ⟨?_, fun s hs k hk => ?_, fun s hs => ?_, ?_⟩
  · rw [hF.i 49 (fun j => by simp [PV])]; exact h.1
  · dsimp only
    rw [(hF 51 (8 * s + k) (by simp [PV]; omega)).1]; exact h.2.1 s hs k hk
  · rw [(hF 55 s (by simp [PV])).2]; exact h.2.2.1 s hs
  · rw [(hF 1 12 (by simp [PV])).2]; exact h.2.2.2
theorem LY.lv {A u : gg_M} (h : LY A u) (hA : WF A) : Lv (xmv A) (xW A) (xG A) (xS A) 0 u := by
  refine ⟨h.1, h.2.2.1, fun s hs _ => ⟨fun k hk => ?_, xS_O hA hs⟩⟩
  have := h.2.1 s hs k hk
  dsimp only at this ⊢
  rw [show 256 * 0 + 8 * s + k = 8 * s + k by omega]
  exact this
/-! how many are left -/
def q_left (A : gg_M) : Int32 := nI (fb_ct (xG A) 32)
theorem c_left {A u : gg_M} {Q : Int32 → gg_M → Prop} (hA : WF A) (h : CI A u) (hQ : ∀ v, Fr PC u v → CI A v → Q (q_left A) v) : w_X10_left u Q := by
  unfold w_X10_left
  refine known_s hA h fun v hF hI hK => ⟨rfl, bitCount_s ?_⟩
  rw [fb_ct_cong (q := xG A) (fun s hs => hK.2.2.2.1 s hs)]
  exact hQ v (hF.mono PLn_C) hI
theorem r_left {A u : gg_M} {Q : Int32 → gg_M → Prop} (hA : WF A) (h : RI A u) (hQ : ∀ v, Fr PR u v → RI A v → Q (q_left A) v) : w_X11_leftNow u Q := by
  unfold w_X11_leftNow
  refine rlays_s hA h fun v hF hI hL => ?_
  unfold w_X11_leftNow_c8
  refine gl_up 32 (fun m q => q = (nI (fb_ct (xG A) m), nI m, v)) 0 (by decide) rfl ?_
  rintro m q hm rfl k hk
  unfold b_X11_leftNow_c8 w_X11_leftNow_c31
  dsimp only
  refine ⟨fun c => ?_, fun c => ?_⟩
  · have c : nI 32 ≤ nI m := c
    rw [nI_leI (by decide) (by omega)] at c
    obtain rfl : m = 32 := by omega
    exact hQ v (hF.mono PLy_R) hI
  · have c : ¬ nI 32 ≤ nI m := c
    rw [nI_leI (by decide) (by omega)] at c
    rw [nI_1, nI_clamp (by omega), hL.2.2.1 m (by omega), lg_pos (by have := xW_le hA m; omega)]
    refine ⟨vp_in_nI (by omega) (by decide), fun c2 => ?_, fun c2 => ?_⟩
    · rintro _ rfl
      refine hk (by omega) _ ?_
      rw [fb_ct_succ, show xG A m = false from decide_eq_false c2, show (0 : Int32) = nI 0 from rfl, nI_add]
      rfl
    · rintro _ rfl
      refine hk (by omega) _ ?_
      rw [fb_ct_succ, show xG A m = true from decide_eq_true (by omega), nI_1]
      rfl
/-! odds -/
def q_odds (A : gg_M) (a b : Int32) : Int64 := if (0 ≤ a ∧ a < 32) ∧ 0 ≤ b ∧ b < 2 then (if xTot A = 0 then NO (-3) else tld (xW A a.toNatClampNeg) (xTot A) b) else NO (-2)
theorem le31 (a : Int32) : a ≤ 31 ↔ a < 32 := by grind
theorem le1 (a : Int32) : a ≤ 1 ↔ a < 2 := by grind
theorem le2 (a : Int32) : a ≤ 2 ↔ a < 3 := by grind
theorem le3 (a : Int32) : a ≤ 3 ↔ a < 4 := by grind
theorem le4 (a : Int32) : a ≤ 4 ↔ a < 5 := by grind
theorem le6 (a : Int32) : a ≤ 6 ↔ a < 7 := by grind
theorem le7 (a : Int32) : a ≤ 7 ↔ a < 8 := by grind
theorem le9 (a : Int32) : a ≤ 9 ↔ a < 10 := by grind
theorem isSet_s {a : Int32} {u : gg_M} {Q : Int32 → gg_M → Prop} (h1 : 0 ≤ a ∧ a < 32 → Q 1 u) (h0 : ¬ (0 ≤ a ∧ a < 32) → Q 0 u) : w_X11_isSet a u Q := in_s 32 (le31 a) (fun c => ⟨Or.inr rfl, h1 c⟩) (fun c => ⟨Or.inl rfl, h0 c⟩)
theorem isSheet_s {a : Int32} {u : gg_M} {Q : Int32 → gg_M → Prop} (h1 : 0 ≤ a ∧ a < 4 → Q 1 u) (h0 : ¬ (0 ≤ a ∧ a < 4) → Q 0 u) : w_X11_isSheet a u Q := in_s 4 (le3 a) (fun c => ⟨Or.inr rfl, h1 c⟩) (fun c => ⟨Or.inl rfl, h0 c⟩)
theorem isText_s {a : Int32} {u : gg_M} {Q : Int32 → gg_M → Prop} (h1 : 0 ≤ a ∧ a < 2 → Q 1 u) (h0 : ¬ (0 ≤ a ∧ a < 2) → Q 0 u) : w_X11_isText a u Q := in_s 2 (le1 a) (fun c => ⟨Or.inr rfl, h1 c⟩) (fun c => ⟨Or.inl rfl, h0 c⟩)
theorem c_odds {A u : gg_M} {a b : Int32} {Q : Int64 → gg_M → Prop} (hA : WF A) (h : CI A u) (hQ : ∀ v, Fr PC u v → CI A v → Q (q_odds A a b) v) : w_X10_odds a b u Q := by
  unfold w_X10_odds w_X10_odds_c17 w_X10_odds_c59
  unfold q_odds at hQ
  refine isB_s (fun c => t1 ?_) (fun c => t0 ?_)
  · refine isB_s (fun c2 => y1 ?_) (fun c2 => y0 ?_)
    · rw [if_pos ⟨c, c2⟩] at hQ
      refine known_s hA h fun v hF hI hK => ⟨rfl, ?_⟩
      obtain ⟨s, hs, rfl⟩ := rng 32 rfl (by decide) c
      have hw := xW_le hA s
      have ht := xTot_le hA
      rw [hK.tn hA, hK.tl hA, nI_clamp (by omega), hK.2.2.1 s hs, nI_l (by omega)]
      rw [nI_clamp (by omega)] at hQ
      have hq := hQ v (hF.mono PLn_C) hI
      refine ⟨fun c3 => ⟨vp_in_nI hs (by decide), told_s (by omega) (by omega) (by omega) ?_⟩, fun c3 => refusal_s ?_⟩
      · rwa [if_neg c3] at hq
      · rwa [if_pos c3] at hq
    · rw [if_neg (fun z => c2 z.2)] at hQ
      exact refusal_s (hQ u Fr.rf h)
  · rw [if_neg (fun z => c z.1)] at hQ
    exact refusal_s (hQ u Fr.rf h)
theorem r_odds {A u : gg_M} {a b : Int32} {Q : Int64 → gg_M → Prop} (hA : WF A) (h : RI A u) (hQ : ∀ v, Fr PR u v → RI A v → Q (q_odds A a b) v) : w_X11_odds a b u Q := by
  unfold w_X11_odds w_X11_odds_c16 w_X11_odds_c57
  unfold q_odds at hQ
  refine isSet_s (fun c => t1 ?_) (fun c => t0 ?_)
  · refine in_s 2 (le1 b) (fun c2 => y1 ?_) (fun c2 => y0 ?_)
    · rw [if_pos ⟨c, c2⟩] at hQ
      refine rlays_s hA h fun v hF hI hL => ?_
      obtain ⟨s, hs, rfl⟩ := rng 32 rfl (by decide) c
      have hw := xW_le hA s
      have ht := xTot_le hA
      rw [hL.tn hA, nI_clamp (by omega), hL.2.2.1 s hs, hL.2.2.2]
      rw [nI_clamp (by omega)] at hQ
      have hq := hQ v (hF.mono PLy_R) hI
      refine ⟨fun c3 => ⟨vp_in_nI hs (by decide), lowest_s (by omega) (by omega) (by omega) ?_⟩, fun c3 => no_s ?_⟩
      · rwa [if_neg c3] at hq
      · rwa [if_pos c3] at hq
    · rw [if_neg (fun z => c2 z.2)] at hQ
      exact no_s (hQ u Fr.rf h)
  · rw [if_neg (fun z => c z.1)] at hQ
    exact no_s (hQ u Fr.rf h)
