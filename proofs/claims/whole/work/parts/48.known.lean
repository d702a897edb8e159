/-! it runs behind the sign 2 alone -/
theorem dz_n7 (mv st : Nat → Int32) (a : Int32) : dz_n mv st a 7 = if dz_s mv st a = 2 then 1 else st 7 := by
  have e7 : dz_pay mv st a 7 = st 7 := rfl
  by_cases hc : dz_can mv st a
  · by_cases h4 : 4 ≤ a
    · rw [if_neg (dz_s_td h4)]
      unfold dz_n
      rw [if_pos hc, if_pos h4]
      unfold dz_tdn
      repeat' split
      all_goals exact e7
    · unfold dz_n dz_s
      rw [if_pos hc, if_pos hc, if_neg h4, if_neg h4]
      unfold dz_tn
      by_cases h2 : dz_ts mv (dz_pay mv st a) a = 2
      · rw [if_pos h2, if_pos h2]
        rfl
      · rw [if_neg h2, if_neg h2]
        exact e7
  · unfold dz_n dz_s
    rw [if_neg hc, if_neg hc, if_neg (by decide)]
def s2b (sg : Nat → Int32) : Nat → Bool
  | 0 => false
  | k + 1 => s2b sg k || decide (sg k = 2)
theorem run_agb {mv ac sg : Nat → Int32} {s : Nat} : ∀ k, agb mv ac sg s k = true → rn mv ac s k 7 = b2i (s2b sg k)
  | 0, _ => rfl
  | k + 1, h => by
    have h1 : (agb mv ac sg s k && decide (dz_s mv (rn mv ac s k) (ac k) = sg k)) = true := h
    simp only [Bool.and_eq_true, decide_eq_true_eq] at h1
    have ih := run_agb k h1.1
    show dz_n mv (rn mv ac s k) (ac k) 7 = b2i (s2b sg k || decide (sg k = 2))
    rw [dz_n7, h1.2, ih]
    by_cases c : sg k = 2
    · rw [if_pos c, c]
      cases s2b sg k <;> rfl
    · rw [if_neg c]
      simp [c]
theorem wB_pos {mv hd ac sg : Nat → Int32} {ns s : Nat} (h : 0 < wB mv hd ac sg ns s) : agb mv ac sg s ns = true := by
  unfold wB at h
  split at h
  · assumption
  · omega
theorem anr_uni {w : Nat → Nat} {r : Nat → Int32} {b : Bool} (h : ∀ s, 0 < w s → r s = b2i b) : ∀ m, anr w r m = (b && decide (∃ s, s < m ∧ 0 < w s))
  | 0 => by simp [anr]
  | m + 1 => by
    have ih := anr_uni h m
    show (anr w r m || (decide (0 < w m) && decide (¬ r m = 0))) = _
    rw [ih]
    by_cases c : 0 < w m
    · rw [h m c]
      have : ∃ s, s < m + 1 ∧ 0 < w s := ⟨m, by omega, c⟩
      rw [decide_eq_true c, decide_eq_true this]
      cases b <;> simp [b2i]
    · rw [decide_eq_false c, Bool.false_and, Bool.or_false]
      congr 1
      rw [decide_eq_decide]
      refine ⟨fun ⟨s, h1, h2⟩ => ⟨s, by omega, h2⟩, fun ⟨s, h1, h2⟩ => ⟨s, ?_, h2⟩⟩
      rcases Nat.lt_or_ge s m with q | q
      · exact q
      · exact absurd ((show s = m by omega) ▸ h2) c
theorem alr_uni {w : Nat → Nat} {r : Nat → Int32} {b : Bool} (h : ∀ s, 0 < w s → r s = b2i b) : ∀ m, alr (fun s => decide (0 < w s)) r m = (b || !decide (∃ s, s < m ∧ 0 < w s))
  | 0 => by simp [alr]
  | m + 1 => by
    have ih := alr_uni h m
    show (alr (fun s => decide (0 < w s)) r m && (!decide (0 < w m) || decide (r m = 1))) = _
    rw [ih]
    by_cases c : 0 < w m
    · rw [h m c]
      have : ∃ s, s < m + 1 ∧ 0 < w s := ⟨m, by omega, c⟩
      rw [decide_eq_true c, decide_eq_true this]
      cases b <;> simp [b2i]
    · rw [decide_eq_false c]
      have : decide (∃ s, s < m ∧ 0 < w s) = decide (∃ s, s < m + 1 ∧ 0 < w s) := by
        rw [decide_eq_decide]
        refine ⟨fun ⟨s, h1, h2⟩ => ⟨s, by omega, h2⟩, fun ⟨s, h1, h2⟩ => ⟨s, ?_, h2⟩⟩
        rcases Nat.lt_or_ge s m with q | q
        · exact q
        · exact absurd ((show s = m by omega) ▸ h2) c
      rw [this]
      simp
theorem sm_pos {w : Nat → Nat} : ∀ {m : Nat}, 0 < fb_sm w m → ∃ s, s < m ∧ 0 < w s
  | 0, h => absurd h (by simp [fb_sm])
  | m + 1, h => by
    rw [fb_sm_succ] at h
    by_cases c : 0 < w m
    · exact ⟨m, by omega, c⟩
    · obtain ⟨s, h1, h2⟩ := sm_pos (w := w) (m := m) (by omega)
      exact ⟨s, by omega, h2⟩
theorem xrun {A : gg_M} : ∀ s, 0 < xW A s → xS A s 7 = b2i (s2b (A.1 54) (xNS A)) := fun _ h => run_agb _ (wB_pos h)
theorem anr_alr {A : gg_M} (h : 0 < xTot A) : anr (xW A) (fun s => xS A s 7) 32 = alr (xG A) (fun s => xS A s 7) 32 := by
  have he := sm_pos (w := xW A) (m := 32) h
  rw [anr_uni (r := fun s => xS A s 7) xrun, show xG A = fun s => decide (0 < xW A s) from rfl, alr_uni (r := fun s => xS A s 7) xrun, decide_eq_true he]
  simp
theorem mxs_c (c : Nat) : ∀ k, mxs (fun _ => c) (k + 1) = c ∧ ams (fun _ => c) (k + 1) = 0
  | 0 => by
    show (if mxs (fun _ => c) 0 < c then c else mxs (fun _ => c) 0) = c ∧ (if mxs (fun _ => c) 0 < c then 0 else ams (fun _ => c) 0) = 0
    have e : mxs (fun _ => c) 0 = 0 := rfl
    have e2 : ams (fun _ => c) 0 = 0 := rfl
    rw [e, e2]
    refine ⟨?_, by split <;> rfl⟩
    split <;> omega
  | k + 1 => by
    obtain ⟨h1, h2⟩ := mxs_c c k
    show (if mxs (fun _ => c) (k + 1) < c then c else mxs (fun _ => c) (k + 1)) = c ∧ (if mxs (fun _ => c) (k + 1) < c then k + 1 else ams (fun _ => c) (k + 1)) = 0
    rw [h1, h2, if_neg (by omega), if_neg (by omega)]
    exact ⟨rfl, rfl⟩
/-- the functions of the memory and those of the one -/
theorem wpr_c {hd gd : Nat → Int32} {wo : Int32} {s : Nat} (h : ∀ t, t < 5 → hd t = gd t) : wpr hd wo s 5 = wpr gd wo s 5 := wpr_hd h 5 (by decide)
theorem xS_c {A : gg_M} {mv ac : Nat → Int32} (hm : ek7 mv (xmv A)) (ha : ∀ j, j < xNS A → ac j = A.1 53 j) (s : Nat) : rn mv ac s (xNS A) = xS A s := by
  rw [rn_mv hm, rn_ac s _ ha]
  rfl
theorem xW_c {A : gg_M} {mv hd ac sg : Nat → Int32} (hm : ek7 mv (xmv A)) (hh : ∀ t, t < 5 → hd t = A.1 52 t) (ha : ∀ j, j < xNS A → ac j = A.1 53 j ∧ sg j = A.1 54 j) : wB mv hd ac sg (xNS A) = xW A := by
  funext s
  unfold xW wB
  rw [agb_mv hm, agb_ac s _ ha, wpr_c hh]
theorem WF.M {A : gg_M} (_ : WF A) : dz_M (xmv A) := okM_M (MV_ok _ _)
theorem CC.M {A u : gg_M} (h : CC A u) : dz_M (u.1 7) := dz_M_mv (fun j hj => (h.2.1.2 j hj).symm) (okM_M (MV_ok _ _))
theorem CC.okA {A u : gg_M} (h : CC A u) (hA : WF A) : okA (u.1 11) := fun t ht => by rw [h.2.2.2.1 t ht]; exact hA.2.2.1 t ht
theorem CC.ns {A u : gg_M} (h : CC A u) (hA : WF A) : u.1 12 2 = nI (xNS A) := by rw [h.2.2.2.2.1.1]; exact hA.2.2.2.1.1
theorem CC.okS {A u : gg_M} (h : CC A u) (hA : WF A) : okS (u.1 13) (u.1 14) (xNS A) := by
  refine ⟨hA.2.2.2.1.2.1, fun j hj => ?_⟩
  rw [(h.2.2.2.2.1.2 j hj).1, (h.2.2.2.2.1.2 j hj).2]
  exact hA.2.2.2.1.2.2 j hj
theorem xW_le {A : gg_M} (hA : WF A) (s : Nat) : xW A s ≤ 1048576 := wB_le hA.2.2.1
theorem xTot_le {A : gg_M} (hA : WF A) : xTot A ≤ 33554432 := Nat.le_trans (fb_sm_bound (fun k _ => xW_le hA k)) (by omega)
theorem xS_O {A : gg_M} (hA : WF A) {s : Nat} (hs : s < 32) : dz_O (xmv A) (xS A s) := rn_O hA.M hs _ (fun j hj => (hA.2.2.2.1.2.2 j hj).1)
theorem known_s {A u : gg_M} {Q : Nat → gg_M → Prop} (hA : WF A) (h : CI A u) (hQ : ∀ v, Fr PLn u v → CI A v → KBf A v → Q 15 v) : w_X10_known u Q := by
  unfold w_X10_known w_X10_known_c29
  rcases h.2.1 with hb | hb
  · rw [hb]
    refine ⟨fun z => absurd rfl z, fun _ => ?_⟩
    refine learn_s h.1.M (h.1.okA hA) (h.1.ns hA) (h.1.okS hA) fun v hF hB h8 h26 h27 => ?_
    have ew : wB (u.1 7) (u.1 11) (u.1 13) (u.1 14) (xNS A) = xW A := xW_c h.1.2.1.2 h.1.2.2.2.1 h.1.2.2.2.2.1.2
    have es : ∀ s, rn (u.1 7) (u.1 13) s (xNS A) = xS A s := xS_c h.1.2.1.2 (fun j hj => (h.1.2.2.2.2.1.2 j hj).1)
    obtain ⟨B1, B2, B3, B4⟩ := hB
    rw [ew] at B2 B3 B4 h26
    simp only [es] at B1 h26
    have hK : KBf A v := by
      refine ⟨h8, B1, B2, fun s hs => ?_, B4, fun ht n hn => ?_⟩
      · rw [B3 s hs]
        unfold xG
        rw [decide_eq_decide]
        exact ⟨fun q => q.2, fun q => ⟨hs, q⟩⟩
      · rw [h26 (n + 1) (by omega), h27 (n + 1) (by omega), B4]
        by_cases c : anr (xW A) (fun s => xS A s 7) 32 = true
        · right
          rw [if_pos c]
          have hfl : xfl A = 1 := by
            unfold xfl
            rw [← anr_alr ht, c]
            rfl
          have e : fk (xmv A) (xW A) n (xG A) (xS A) (xTot A) (xfl A) = fun _ => xTot A := by
            funext a
            unfold fk
            rw [hfl, if_neg (by decide)]
          obtain ⟨m1, m2⟩ := mxs_c (xTot A) 9
          unfold xba xbw
          rw [e, m1, m2]
          exact ⟨rfl, rfl⟩
        · left
          rw [if_neg c]
          refine ⟨rfl, ?_⟩
          unfold xfl
          rw [← anr_alr ht]
          cases hc : anr (xW A) (fun s => xS A s 7) 32
          · rfl
          · exact absurd hc c
    exact hQ v hF ⟨h.1.fr hF (fun t j q => by simp [kc] at q; simp [PLn]; omega), Or.inr hK, h.2.2.1.fr hF (fun _ => rfl) (fun _ => rfl), h.2.2.2.fr hF rfl (fun _ => rfl)⟩ hK
  · refine ⟨fun _ => hQ u Fr.rf h hb, fun z => ?_⟩
    rw [hb.1] at z
    exact absurd z (by decide)
/-- what the reference has behind lays -/
def LY (A v : gg_M) : Prop := ek7 (v.1 49) (xmv A) ∧ (∀ s, s < 32 → ek8 (fun k => v.1 51 (8 * s + k)) (xS A s)) ∧ (∀ s, s < 32 → v.2 55 s = lN (xW A s)) ∧ v.2 1 12 = lN (xTot A)
theorem RI.e {A u : gg_M} (h : RI A u) (t j : Nat) (ht : rc t j = true := by rfl) : u.1 t j = A.1 t j := h t j ht
theorem rlays_s {A u : gg_M} {Q : gg_M → Prop} (hA : WF A) (h : RI A u) (hQ : ∀ v, Fr PLy u v → RI A v → LY A v → Q v) : w_X11_lays u Q := by
  have e52 : u.1 52 = A.1 52 := funext fun j => h.e 52 j
  have e53 : u.1 53 = A.1 53 := funext fun j => h.e 53 j
  have e54 : u.1 54 = A.1 54 := funext fun j => h.e 54 j
  have e47 : (fun j => u.1 47 (60 * 0 + j)) = xb0 A := funext fun j => h.e 47 _
  refine lays_s (n := xT0 A) (ns := xNS A) rfl (by rw [h.e 48 0]; exact hA.1.1) hA.1.2 (by rw [e52]; exact hA.2.2.1) (by rw [h.e 1 8]; exact hA.2.2.2.1.1) (by rw [e53, e54]; exact hA.2.2.2.1.2) fun v hF h49 h51 h55 h12 => ?_
  rw [e47, e52, e53, e54] at *
  exact hQ v hF (h.fr hF (fun t j q => by simp [rc] at q; simp [PLy]; omega)) ⟨h49, h51, h55, h12⟩
