/-! the law that fits -/
def LwS (A : gg_M) (k : Nat) (v : gg_M) : Prop := v.1 37 0 = nI (lbs A (k - 1) / 40) ∧ v.1 37 1 = nI (lbs A (k - 1) / 4 % 10) ∧ v.1 37 2 = nI (lbs A (k - 1) % 4) ∧ v.1 37 3 = lof4 A (lbs A (k - 1))
def P37 (t _j : Nat) : Bool := t == 37
theorem CC.p37 {A u v : gg_M} (h : CC A u) (hF : Fr P37 u v) : CC A v := h.fr hF (fun t j q => by simp [kc] at q; simp [P37]; omega)
theorem take_s {A u : gg_M} {a b c : Nat} {Q : gg_M → Prop} (hA : WF A) (h : CC A u) (hb : b < 10) (hc : c < 4) (hL : LwS A (40 * a + 4 * b + c) u) (hQ : ∀ v, Fr P37 u v → LwS A (40 * a + 4 * b + c + 1) v → Q v) : w_X3_takeIfBetter (nI a) (nI b) (nI c) u Q := by
  unfold w_X3_takeIfBetter w_X3_takeIfBetter_c49
  have e1 : (40 * a + 4 * b + c) / 40 = a := by omega
  have e2 : (40 * a + 4 * b + c) / 4 % 10 = b := by omega
  have e3 : (40 * a + 4 * b + c) % 4 = c := by omega
  have eo : xof A (nI a) (nI b) (nI c) = lof4 A (40 * a + 4 * b + c) := by
    unfold lof4
    rw [e1, e2, e3]
  refine offBy_s hA h ?_
  rw [eo]
  have new : ∀ v, v = gg_wI (gg_wI (gg_wI (gg_wI u 37 0 (nI a)) 37 1 (nI b)) 37 2 (nI c)) 37 3 (lof4 A (40 * a + 4 * b + c)) → lbs A (40 * a + 4 * b + c) = 40 * a + 4 * b + c → Q v := by
    rintro _ rfl el
    refine hQ _ ((((Fr.rf.wI rfl).wI rfl).wI rfl).wI rfl) ?_
    unfold LwS
    rw [Nat.add_sub_cancel, el, e1, e2, e3]
    exact ⟨rfl, rfl, rfl, rfl⟩
  obtain ⟨l0, l1, l2, l3⟩ := hL
  rw [l3]
  rcases Nat.eq_zero_or_pos (40 * a + 4 * b + c) with z | z
  · rw [z] at l0 l1 l2 l3 hQ new ⊢
    refine ⟨fun q => hQ u Fr.rf ⟨l0, l1, l2, l3⟩, fun q => ?_⟩
    rintro _ rfl _ rfl _ rfl _ rfl
    exact new _ rfl rfl
  · obtain ⟨i, hi⟩ : ∃ i, 40 * a + 4 * b + c = i + 1 := ⟨40 * a + 4 * b + c - 1, by omega⟩
    have es : lbs A (i + 1) = if lof4 A (i + 1) < lof4 A (lbs A i) then i + 1 else lbs A i := rfl
    rw [hi] at l0 l1 l2 l3 hQ new ⊢
    rw [Nat.add_sub_cancel] at l0 l1 l2 l3 ⊢
    refine ⟨fun q => ?_, fun q => ?_⟩
    · refine hQ u Fr.rf ?_
      unfold LwS
      rw [Nat.add_sub_cancel, es, if_neg (by grind)]
      exact ⟨l0, l1, l2, l3⟩
    · rintro _ rfl _ rfl _ rfl _ rfl
      refine new _ rfl ?_
      rw [es, if_pos (by grind)]
theorem findLaw_s {A u : gg_M} {Q : gg_M → Prop} (hA : WF A) (h : CI A u) (hQ : ∀ v, Fr PC u v → CI A v → KLf A v → Q v) : w_X3_findLaw u Q := by
  unfold w_X3_findLaw
  rcases h.2.2.2 with hk | hk
  · rw [hk]
    refine ⟨fun _ => ?_, fun z => absurd rfl z⟩
    have c0 := h.1
    refine fill_s (by decide) fun f hf _ => ?_
    have fF : Fr P37 u (gg_wA u 37 f) := Fr.rf.wA (fun _ => rfl)
    refine offBy_s hA (c0.p37 fF) ?_
    rintro _ rfl
    have hL0 : LwS A (40 * 0) (gg_wI (gg_wA u 37 f) 37 3 (xof A 0 0 0)) := by
      have z : lbs A (40 * 0 - 1) = 0 := by
        rw [show 40 * 0 - 1 = 0 from rfl]
        rfl
      unfold LwS
      rw [z, gm_I, gm_AA, gg_wA_1, gg_wA_1, upd_ne (k := 3) (j := 0) f _ (by decide), upd_ne (k := 3) (j := 1) f _ (by decide), upd_ne (k := 3) (j := 2) f _ (by decide), upd_self, hf 0 (by decide), hf 1 (by decide), hf 2 (by decide)]
      exact ⟨rfl, rfl, rfl, rfl⟩
    unfold w_X3_findLaw_c31
    refine gl_up 10 (fun a q => ∃ v, q = (nI a, v) ∧ Fr P37 u v ∧ LwS A (40 * a) v) 0 (by decide) ⟨_, rfl, fF.wI rfl, hL0⟩ ?_
    rintro a q ha ⟨v, rfl, hF, hL⟩ k1 hk1
    unfold b_X3_findLaw_c31
    dsimp only
    refine ⟨fun c => ?_, fun c => ?_⟩
    · have c : nI 9 < nI a := c
      rw [nI_ltI (by decide) (by omega)] at c
      obtain rfl : a = 10 := by omega
      rintro _ rfl
      obtain ⟨l0, l1, l2, l3⟩ := hL
      have hF2 : Fr (fun t j => P37 t j || (t == 33 && j == 4)) u (gg_wI v 33 4 1) := Fr.wI (hF.mono (fun t j q => by simp at q; exact q.1)) (by simp)
      have hK : KLf A (gg_wI v 33 4 1) := ⟨rfl, l0, l1, l2, l3⟩
      refine hQ _ (hF2.mono (fun t j q => by simp [PC] at q; simp [P37]; omega)) ⟨h.1.fr hF2 (fun t j q => by simp [kc] at q; simp [P37]; omega), h.2.1.fr hF2 (fun _ _ => by simp [P37]) (fun _ _ => by simp [P37]) (fun _ => by simp [P37]) (fun _ => by simp [P37]) (fun _ => by simp [P37]), h.2.2.1.fr hF2 (fun _ => by simp [P37]) (fun _ => by simp [P37]), Or.inr hK⟩ hK
    · have c : ¬ nI 9 < nI a := c
      rw [nI_ltI (by decide) (by omega)] at c
      unfold w_X3_findLaw_c39
      refine gl_up 10 (fun b q => ∃ v, q = (nI b, v) ∧ Fr P37 u v ∧ LwS A (40 * a + 4 * b) v) 0 (by decide) ⟨v, rfl, hF, hL⟩ ?_
      rintro b q hb ⟨v, rfl, hF, hL⟩ k2 hk2
      unfold b_X3_findLaw_c39
      dsimp only
      refine ⟨fun c2 => ?_, fun c2 => ?_⟩
      · have c2 : nI 9 < nI b := c2
        rw [nI_ltI (by decide) (by omega)] at c2
        obtain rfl : b = 10 := by omega
        rw [nI_1]
        exact hk1 (by omega) _ ⟨v, rfl, hF, by rw [show 40 * (a + 1) = 40 * a + 4 * 10 by omega]; exact hL⟩
      · have c2 : ¬ nI 9 < nI b := c2
        rw [nI_ltI (by decide) (by omega)] at c2
        unfold w_X3_findLaw_c47
        refine gl_up 4 (fun c q => ∃ v, q = (nI c, v) ∧ Fr P37 u v ∧ LwS A (40 * a + 4 * b + c) v) 0 (by decide) ⟨v, rfl, hF, hL⟩ ?_
        rintro c q hc ⟨v, rfl, hF, hL⟩ k3 hk3
        unfold b_X3_findLaw_c47
        dsimp only
        refine ⟨fun c3 => ?_, fun c3 => ?_⟩
        · have c3 : nI 3 < nI c := c3
          rw [nI_ltI (by decide) (by omega)] at c3
          obtain rfl : c = 4 := by omega
          rw [nI_1]
          exact hk2 (by omega) _ ⟨v, rfl, hF, by rw [show 40 * a + 4 * (b + 1) = 40 * a + 4 * b + 4 by omega]; exact hL⟩
        · have c3 : ¬ nI 3 < nI c := c3
          rw [nI_ltI (by decide) (by omega)] at c3
          refine take_s hA (c0.p37 hF) (by omega) (by omega) hL fun v1 hF1 hL1 => ?_
          rw [nI_1]
          exact hk3 (by omega) _ ⟨v1, rfl, hF.tr hF1, hL1⟩
  · refine ⟨fun z => ?_, fun _ => hQ u Fr.rf h hk⟩
    rw [hk.1] at z
    exact absurd z (by decide)
def xLw (A : gg_M) (w : Nat) : Int32 := if w = 0 then nI (xL A / 40) else if w = 1 then nI (xL A / 4 % 10) else if w = 2 then nI (xL A % 4) else lof4 A (xL A)
def q_fits (A : gg_M) (a : Int32) : Int32 := if 0 ≤ a ∧ a < 4 then (if xNM A = 0 then -3 else xLw A a.toNatClampNeg) else -2
theorem c_fits {A u : gg_M} {a : Int32} {Q : Int32 → gg_M → Prop} (hA : WF A) (h : CI A u) (hQ : ∀ v, Fr PC u v → CI A v → Q (q_fits A a) v) : w_X10_fits a u Q := by
  unfold w_X10_fits
  unfold q_fits at hQ
  refine isB_s (fun c => y1 ?_) (fun c => y0 ?_)
  · rw [if_pos c] at hQ
    have hn := h.1.nm hA
    have hl := hA.2.2.2.2.1.2.1
    rw [hn]
    refine ⟨fun c2 => findLaw_s hA h fun v hF hI hK => ?_, fun c2 => ?_⟩
    · have c2 : nI 0 < nI (xNM A) := c2
      rw [nI_ltI (by decide) (by omega)] at c2
      have hq := hQ v hF hI
      rw [if_neg (by omega)] at hq
      obtain ⟨w, hw, rfl⟩ := rng 4 rfl (by decide) c
      rw [nI_clamp (by omega)] at hq ⊢
      refine ⟨vp_in_nI hw (by decide), ?_⟩
      obtain ⟨-, l0, l1, l2, l3⟩ := hK
      have e : v.1 37 w = xLw A w := by
        rcases (by omega : w = 0 ∨ w = 1 ∨ w = 2 ∨ w = 3) with rfl | rfl | rfl | rfl
        · exact l0
        · exact l1
        · exact l2
        · exact l3
      rw [e]
      exact hq
    · have c2 : ¬ nI 0 < nI (xNM A) := c2
      rw [nI_ltI (by decide) (by omega)] at c2
      have hq := hQ u Fr.rf h
      rwa [if_pos (by omega)] at hq
  · rw [if_neg c] at hQ
    exact hQ u Fr.rf h
theorem lbs_le (A : gg_M) : ∀ k, lbs A k ≤ k
  | 0 => Nat.le_refl _
  | k + 1 => by
    have := lbs_le A k
    show (if lof4 A (k + 1) < lof4 A (lbs A k) then k + 1 else lbs A k) ≤ _
    split <;> omega
theorem r_fitsNow {A u : gg_M} {w : Nat} {Q : Int32 → gg_M → Prop} (hA : WF A) (h : RI A u) (hw : w < 4) (hQ : Q (if xNM A = 0 then -3 else xLw A w) u) : w_X11_fitsNow (nI w) u Q := by
  unfold w_X11_fitsNow
  have hn : u.1 1 15 = nI (xNM A) := (h.e 1 15).trans hA.2.2.2.2.1.1
  have hl := hA.2.2.2.2.1.2.1
  rw [hn]
  refine ⟨fun c => missesOf_s hA h ?_, fun c => ?_⟩
  · have c : ¬ nI (xNM A) = nI 0 := c
    rw [nI_eq (by omega) (by decide)] at c
    rw [if_neg c] at hQ
    unfold w_X11_fitsNow_c23
    refine gl_up 399 (fun m q => q = (nI (lbs A m), lof4 A (lbs A m), nI (m + 1), u)) 0 (by decide) (by rw [show lbs A 0 = 0 from rfl, show lof4 A 0 = xof A 0 0 0 from rfl]; rfl) ?_
    rintro m q hm rfl k hk
    unfold b_X11_fitsNow_c23 w_X11_fitsNow_c122 w_X11_fitsNow_c65 w_X11_fitsNow_c78
    dsimp only
    have hb := lbs_le A m
    refine ⟨fun c2 => ?_, fun c2 => ?_⟩
    · have c2 : nI 400 ≤ nI (m + 1) := c2
      rw [nI_leI (by decide) (by omega)] at c2
      obtain rfl : m = 399 := by omega
      have hQ : Q (xLw A w) u := hQ
      have d1 : nI (lbs A 399) / 40 = nI (lbs A 399 / 40) := pk_div (by omega) (by decide) (by decide)
      have d2 : nI (lbs A 399) / 4 = nI (lbs A 399 / 4) := pk_div (by omega) (by decide) (by decide)
      have d3 : nI (lbs A 399 / 4) - nI (lbs A 399 / 4) / 10 * 10 = nI (lbs A 399 / 4 % 10) := pk_rem (by omega) (by decide) (by decide)
      have d4 : nI (lbs A 399) - nI (lbs A 399) / 4 * 4 = nI (lbs A 399 % 4) := pk_rem (by omega) (by decide) (by decide)
      rw [d4, d1, d2, d3]
      have w0 : nI w = 0 ↔ w = 0 := nI_eq (b := 0) (by omega) (by decide)
      have w1 : nI w = 1 ↔ w = 1 := nI_eq (b := 1) (by omega) (by decide)
      have w2 : nI w = 2 ↔ w = 2 := nI_eq (b := 2) (by omega) (by decide)
      rw [w0, w1, w2]
      unfold xLw at hQ
      refine ⟨fun q0 => ⟨fun q1 => ⟨fun q2 => ?_, fun q2 => ?_⟩, fun q1 => ?_⟩, fun q0 => ?_⟩
      · rwa [if_neg q0, if_neg q1, if_neg q2] at hQ
      · rwa [if_neg q0, if_neg q1, if_pos q2] at hQ
      · rwa [if_neg q0, if_pos q1] at hQ
      · rwa [if_pos q0] at hQ
    · have c2 : ¬ nI 400 ≤ nI (m + 1) := c2
      rw [nI_leI (by decide) (by omega)] at c2
      have d1 : nI (m + 1) / 40 = nI ((m + 1) / 40) := pk_div (by omega) (by decide) (by decide)
      have d2 : nI (m + 1) / 4 = nI ((m + 1) / 4) := pk_div (by omega) (by decide) (by decide)
      have d3 : nI ((m + 1) / 4) - nI ((m + 1) / 4) / 10 * 10 = nI ((m + 1) / 4 % 10) := pk_rem (by omega) (by decide) (by decide)
      have d4 : nI (m + 1) - nI (m + 1) / 4 * 4 = nI ((m + 1) % 4) := pk_rem (by omega) (by decide) (by decide)
      rw [d4, d1, d2, d3]
      refine missesOf_s hA h ?_
      have es : lbs A (m + 1) = if lof4 A (m + 1) < lof4 A (lbs A m) then m + 1 else lbs A m := rfl
      rw [show xof A (nI ((m + 1) / 40)) (nI ((m + 1) / 4 % 10)) (nI ((m + 1) % 4)) = lof4 A (m + 1) from rfl, nI_1]
      refine ⟨fun q => ⟨fun _ => hk (by omega) _ ?_, fun z => absurd q z⟩, fun q => ⟨fun z => absurd z q, fun _ => hk (by omega) _ ?_⟩⟩
      · rw [es, if_neg (by grind)]
      · rw [es, if_pos (by grind)]
  · have c : nI (xNM A) = nI 0 := c
    rw [nI_eq (by omega) (by decide)] at c
    rwa [if_pos c] at hQ
theorem r_fits {A u : gg_M} {a : Int32} {Q : Int32 → gg_M → Prop} (hA : WF A) (h : RI A u) (hQ : Q (q_fits A a) u) : w_X11_fits a u Q := by
  unfold w_X11_fits w_X11_fits_c19
  unfold q_fits at hQ
  refine in_s 4 (le3 a) (fun c => t1 ?_) (fun c => t0 ?_)
  · rw [if_pos c] at hQ
    obtain ⟨w, hw, rfl⟩ := rng 4 rfl (by decide) c
    rw [nI_clamp (by omega)] at hQ
    exact r_fitsNow hA h hw hQ
  · rwa [if_neg c] at hQ
