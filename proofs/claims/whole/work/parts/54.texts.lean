/-! each piece carried over -/
theorem xT0_e {A B : gg_M} (e : B.1 48 0 = A.1 48 0) : xT0 B = xT0 A := by unfold xT0; rw [e]
theorem xT1_e {A B : gg_M} (e : B.1 48 1 = A.1 48 1) : xT1 B = xT1 A := by unfold xT1; rw [e]
theorem xmv_e {A B : gg_M} (e : B.1 48 0 = A.1 48 0) (eb : ∀ j, j < xT0 A → xb0 B j = xb0 A j) : xmv B = xmv A := by unfold xmv; rw [xT0_e e]; exact MV_b eb
theorem xha_e {A B : gg_M} (e : B.1 48 1 = A.1 48 1) (eb : xb1 B = xb1 A) : xha B = xha A := by unfold xha; rw [xT1_e e, eb]
theorem xhn_e {A B : gg_M} (e : B.1 48 1 = A.1 48 1) (eb : xb1 B = xb1 A) : xhn B = xhn A := by unfold xhn; rw [xT1_e e, eb]
theorem xhf_e {A B : gg_M} (e : B.1 48 1 = A.1 48 1) (eb : xb1 B = xb1 A) : xhf B = xhf A := by unfold xhf; rw [xT1_e e, eb]
theorem CM.tr {A B u v : gg_M} (h : CM A u) (e : B.1 48 0 = A.1 48 0) (eb : ∀ j, j < xT0 A → xb0 B j = xb0 A j) (h6 : v.1 6 = u.1 6) (h7 : v.1 7 = u.1 7) : CM B v := by
  unfold CM at h ⊢
  rw [xmv_e e eb, xT0_e e, MF_b eb, h6, h7]
  exact h
theorem CP.tr {A B u v : gg_M} (h : CP A u) (e : B.1 48 1 = A.1 48 1) (eb : xb1 B = xb1 A) (h8 : v.1 8 = u.1 8) (h9 : v.1 9 = u.1 9) : CP B v := by
  unfold CP at h ⊢
  rw [xha_e e eb, xhn_e e eb, xhf_e e eb, h8, h9]
  exact h
theorem CT.tr {A B u v : gg_M} (h : CT A u) (e0 : B.1 48 0 = A.1 48 0) (eb0 : ∀ j, j < xT0 A → xb0 B j = xb0 A j) (e1 : B.1 48 1 = A.1 48 1) (eb1 : xb1 B = xb1 A) (h2 : v.1 2 = u.1 2) (h3 : v.1 3 = u.1 3) (h4 : v.1 4 = u.1 4) (h5 : v.1 5 = u.1 5) : CT B v := by
  unfold CT at h ⊢
  rw [xT0_e e0, xT1_e e1, eb1, e0, e1, h2, h3, h4, h5]
  exact ⟨⟨h.1.1, fun j hj => by rw [eb0 j hj]; exact h.1.2 j hj⟩, h.2⟩
theorem CA.tr {A B u v : gg_M} (h : CA A u) (e : B.1 52 = A.1 52) (h11 : v.1 11 = u.1 11) : CA B v := by
  unfold CA at h ⊢
  rw [e, h11]
  exact h
theorem CS.tr {A B u v : gg_M} (h : CS A u) (e8 : B.1 1 8 = A.1 1 8) (e53 : B.1 53 = A.1 53) (e54 : B.1 54 = A.1 54) (h12 : v.1 12 = u.1 12) (h13 : v.1 13 = u.1 13) (h14 : v.1 14 = u.1 14) : CS B v := by
  unfold CS at h ⊢
  rw [xNS_e e8, e8, e53, e54, h12, h13, h14]
  exact h
theorem CN.tr {A B u v : gg_M} (h : CN A u) (e15 : B.1 1 15 = A.1 1 15) (e57 : B.1 57 = A.1 57) (e58 : B.1 58 = A.1 58) (e59 : B.1 59 = A.1 59) (h33 : v.1 33 5 = u.1 33 5) (h34 : v.1 34 = u.1 34) (h35 : v.1 35 = u.1 35) (h36 : v.1 36 = u.1 36) : CN B v := by
  unfold CN at h ⊢
  rw [xNM_e e15, e15, e57, e58, e59, h33, h34, h35, h36]
  exact h
theorem CH.tr {A B u v : gg_M} (h : CH A u) (e60 : B.1 60 = A.1 60) (e61 : B.1 61 = A.1 61) (e62 : B.1 62 = A.1 62) (e63 : B.1 63 = A.1 63) (h39 : ∀ s, s < 4 → v.1 (39 + s) = u.1 (39 + s)) (h43 : ∀ s, s < 4 → v.1 (43 + s) = u.1 (43 + s)) : CH B v := by
  intro s hs
  have eZ : xZ B s = xZ A s := by unfold xZ; rw [e62]
  have := h s hs
  rw [e60, e61, e62, e63, eZ, h39 s hs, h43 s hs]
  exact this
theorem CF.tr {A B u v : gg_M} (h : CF A u) (e : B.1 1 24 = A.1 1 24) (h0 : v.1 0 = u.1 0) : CF B v := by
  unfold CF at h ⊢
  rw [e, h0]
  exact h
theorem RI.wI {A u : gg_M} (h : RI A u) (t j : Nat) (x : Int32) : RI (gg_wI A t j x) (gg_wI u t j x) := fun a k q => by
  by_cases e : a = t
  · subst e
    by_cases e2 : k = j
    · subst e2
      rw [gi_eq, gi_eq]
    · rw [gi_ne _ _ _ _ e2, gi_ne _ _ _ _ e2]
      exact h a k q
  · rw [gi_nt _ _ _ _ e, gi_nt _ _ _ _ e]
    exact h a k q
theorem h4c {P : Nat → Prop} (h0 : P 0) (h1 : P 1) (h2 : P 2) (h3 : P 3) : ∀ s, s < 4 → P s
  | 0, _ => h0
  | 1, _ => h1
  | 2, _ => h2
  | 3, _ => h3
/-! a byte is typed -/
def ty0 (A : gg_M) (b : Int32) : gg_M := gg_wI (gg_wI A 47 (60 * 0 + xT0 A) b) 48 0 (nI (xT0 A + 1))
def ty1 (A : gg_M) (b : Int32) : gg_M := gg_wI (gg_wI A 47 (60 * 1 + xT1 A) b) 48 1 (nI (xT1 A + 1))
def n_type (A : gg_M) (a b : Int32) : gg_M := if (0 ≤ a ∧ a < 2) ∧ 0 ≤ b ∧ b < 256 then (if a = 0 then (if xT0 A = 60 then A else ty0 A b) else if xT1 A = 40 then A else ty1 A b) else A
def m_type (A : gg_M) (a b : Int32) : Int32 := if (0 ≤ a ∧ a < 2) ∧ 0 ≤ b ∧ b < 256 then (if a = 0 then (if xT0 A = 60 then -4 else nI (xT0 A + 1)) else if xT1 A = 40 then -4 else nI (xT1 A + 1)) else -2
theorem ty0_T {A : gg_M} {b : Int32} (h : xT0 A < 60) : xT0 (ty0 A b) = xT0 A + 1 := by
  unfold xT0 ty0
  rw [gi_eq]
  exact nI_clamp (by unfold xT0 at h; unfold xT0; omega)
theorem ty1_T {A : gg_M} {b : Int32} (h : xT1 A < 40) : xT1 (ty1 A b) = xT1 A + 1 := by
  unfold xT1 ty1
  rw [gi_eq]
  exact nI_clamp (by unfold xT1 at h; unfold xT1; omega)
theorem ty0_b1 {A : gg_M} {b : Int32} (h : xT0 A < 60) : xb1 (ty0 A b) = xb1 A := by
  funext j
  unfold xb1 ty0
  rw [gi_nt _ _ _ _ (by decide), gi_ne _ _ _ _ (by omega)]
theorem ty1_b0 {A : gg_M} {b : Int32} (j : Nat) (h : j < 60) : xb0 (ty1 A b) j = xb0 A j := by
  unfold xb0 ty1
  rw [gi_nt _ _ _ _ (by decide), gi_ne _ _ _ _ (by omega)]
theorem w_type {A : gg_M} {a b : Int32} (hA : WF A) : WF (n_type A a b) := by
  unfold n_type
  obtain ⟨w0, w1, w2, w3, w4, w5⟩ := hA
  split
  · split
    · split
      · exact ⟨w0, w1, w2, w3, w4, w5⟩
      · rename_i c
        have e := ty0_T (A := A) (b := b) (by omega)
        refine ⟨⟨?_, by omega⟩, w1, w2, w3, w4, w5⟩
        rw [e]
        exact gi_eq _ _ _ _
    · split
      · exact ⟨w0, w1, w2, w3, w4, w5⟩
      · rename_i c
        have e := ty1_T (A := A) (b := b) (by omega)
        refine ⟨w0, ⟨?_, by omega⟩, w2, w3, w4, w5⟩
        rw [e]
        exact gi_eq _ _ _ _
  · exact ⟨w0, w1, w2, w3, w4, w5⟩
theorem takes_s {t c n cap : Nat} {b : Int32} {u : gg_M} {Q : Int32 → gg_M → Prop} (hr : gg_rf t 0 = c) (hc : gg_al c = cap) (hcap : cap < 1000) (htc : t ≠ c) (hn : u.1 t 1 = nI n) (hl : n ≤ cap) (h1 : n < cap → Q 1 (gg_wI (gg_wI u c n b) t 1 (nI (n + 1)))) (h0 : n = cap → Q 0 u) : w_X8_takes t b u Q := by
  unfold w_X8_takes w_X8_takes_c19
  rw [hr, hc, hn]
  refine ⟨fun z => absurd z (nI_pos (by omega)), fun _ => ⟨fun c2 => ?_, fun c2 => ?_⟩⟩
  · have c2 : nI n < nI cap := c2
    rw [nI_ltI (by omega) (by omega)] at c2
    refine ⟨vp_in_nI c2 (by omega), ?_⟩
    rintro _ rfl _ rfl
    rw [gi_nt _ _ _ _ htc, hn, nI_1, nI_clamp (by omega)]
    exact h1 c2
  · have c2 : ¬ nI n < nI cap := c2
    rw [nI_ltI (by omega) (by omega)] at c2
    exact h0 (by omega)
def un0 (u : gg_M) (n : Nat) (f : Nat → Int32) : gg_M := gg_wI (gg_wI (gg_wA (gg_wI u 6 1 (MF n (u.1 4))) 7 f) 15 8 0) 31 1 0
def un1 (u : gg_M) (n : Nat) (f : Nat → Int32) : gg_M := gg_wI (gg_wI (gcu u 9 8 1 f (HN n (u.1 5))) 8 2 (HF n (u.1 5))) 31 1 0
theorem und0_s {n : Nat} {u : gg_M} {Q : gg_M → Prop} (hn : u.1 2 1 = nI n) (hl : n ≤ 60) (h : ∀ f, ek7 f (MV n (u.1 4)) → Q (un0 u n f)) : w_X10_understand 0 u Q := by
  unfold w_X10_understand w_X10_understand_c37
  refine ⟨fun z => absurd rfl z, fun _ => mlearn_s hn hl fun f hf => ?_⟩
  rintro _ rfl _ rfl
  exact h f hf
theorem und1_s {n : Nat} {u : gg_M} {Q : gg_M → Prop} (hn : u.1 3 1 = nI n) (hl : n ≤ 40) (h : ∀ f, (∀ j, j < HN n (u.1 5) → f j = HA n (u.1 5) j) → Q (un1 u n f)) : w_X10_understand 1 u Q := by
  unfold w_X10_understand w_X10_understand_c37
  refine ⟨fun _ => hlearn_s hn hl fun f hf => ?_, fun z => absurd z (by decide)⟩
  rintro _ rfl
  exact h f hf
theorem CI_t0 {A B u u1 : gg_M} {f : Nat → Int32} (h : CI A u) (e : ∀ t, t ≠ 47 → t ≠ 48 → B.1 t = A.1 t) (e1 : B.1 48 1 = A.1 48 1) (eb1 : xb1 B = xb1 A) (hu : ∀ t, t ≠ 2 → t ≠ 4 → u1.1 t = u.1 t)
    (h2 : u1.1 2 1 = B.1 48 0) (h4 : ∀ j, j < xT0 B → u1.1 4 j = xb0 B j) (hf : ek7 f (MV (xT0 B) (u1.1 4))) : CI B (un0 u1 (xT0 B) f) := by
  obtain ⟨⟨ct, cm, cp, ca, cs, cn, ch, cf⟩, kb, kt, kl⟩ := h
  have e11 : B.1 1 = A.1 1 := e 1 (by decide) (by decide)
  refine ⟨⟨⟨⟨h2, h4⟩, ?_, ?_⟩, ⟨?_, ?_⟩, cp.tr e1 eb1 (hu 8 (by decide) (by decide)) (hu 9 (by decide) (by decide)), ca.tr (e 52 (by decide) (by decide)) (hu 11 (by decide) (by decide)),
    cs.tr (by rw [e11]) (e 53 (by decide) (by decide)) (e 54 (by decide) (by decide)) (hu 12 (by decide) (by decide)) (hu 13 (by decide) (by decide)) (hu 14 (by decide) (by decide)),
    cn.tr (by rw [e11]) (e 57 (by decide) (by decide)) (e 58 (by decide) (by decide)) (e 59 (by decide) (by decide)) (congrFun (hu 33 (by decide) (by decide)) 5) (hu 34 (by decide) (by decide)) (hu 35 (by decide) (by decide)) (hu 36 (by decide) (by decide)),
    ch.tr (e 60 (by decide) (by decide)) (e 61 (by decide) (by decide)) (e 62 (by decide) (by decide)) (e 63 (by decide) (by decide)) (h4c (hu 39 (by decide) (by decide)) (hu 40 (by decide) (by decide)) (hu 41 (by decide) (by decide)) (hu 42 (by decide) (by decide))) (h4c (hu 43 (by decide) (by decide)) (hu 44 (by decide) (by decide)) (hu 45 (by decide) (by decide)) (hu 46 (by decide) (by decide))),
    cf.tr (by rw [e11]) (hu 0 (by decide) (by decide))⟩, Or.inl rfl, Or.inl rfl, kl.tr (e 57 (by decide) (by decide)) (e 58 (by decide) (by decide)) (e 59 (by decide) (by decide)) (by rw [e11]) (congrFun (hu 33 (by decide) (by decide)) 4) (hu 37 (by decide) (by decide))⟩
  · show u1.1 3 1 = _
    rw [hu 3 (by decide) (by decide), e1]
    exact ct.2.1
  · intro j hj
    show u1.1 5 j = _
    rw [hu 5 (by decide) (by decide), eb1]
    rw [xT1_e e1] at hj
    exact ct.2.2 j hj
  · show MF (xT0 B) (u1.1 4) = _
    exact MF_b h4
  · show ek7 f (xmv B)
    unfold xmv
    rw [← MV_b h4]
    exact hf
theorem CI_t1 {A B u u1 : gg_M} {f : Nat → Int32} (h : CI A u) (e : ∀ t, t ≠ 47 → t ≠ 48 → B.1 t = A.1 t) (e0 : B.1 48 0 = A.1 48 0) (eb0 : ∀ j, j < xT0 A → xb0 B j = xb0 A j) (hu : ∀ t, t ≠ 3 → t ≠ 5 → u1.1 t = u.1 t) (hu2 : u1.2 = u.2)
    (h3 : u1.1 3 1 = B.1 48 1) (h5 : ∀ j, j < xT1 B → u1.1 5 j = xb1 B j) (hf : ∀ j, j < HN (xT1 B) (u1.1 5) → f j = HA (xT1 B) (u1.1 5) j) : CI B (un1 u1 (xT1 B) f) := by
  obtain ⟨⟨ct, cm, cp, ca, cs, cn, ch, cf⟩, kb, kt, kl⟩ := h
  have e11 : B.1 1 = A.1 1 := e 1 (by decide) (by decide)
  refine ⟨⟨⟨⟨?_, ?_⟩, h3, h5⟩, cm.tr e0 eb0 (hu 6 (by decide) (by decide)) (hu 7 (by decide) (by decide)), ⟨?_, ?_, ?_⟩, ca.tr (e 52 (by decide) (by decide)) (hu 11 (by decide) (by decide)),
    cs.tr (by rw [e11]) (e 53 (by decide) (by decide)) (e 54 (by decide) (by decide)) (hu 12 (by decide) (by decide)) (hu 13 (by decide) (by decide)) (hu 14 (by decide) (by decide)),
    cn.tr (by rw [e11]) (e 57 (by decide) (by decide)) (e 58 (by decide) (by decide)) (e 59 (by decide) (by decide)) (congrFun (hu 33 (by decide) (by decide)) 5) (hu 34 (by decide) (by decide)) (hu 35 (by decide) (by decide)) (hu 36 (by decide) (by decide)),
    ch.tr (e 60 (by decide) (by decide)) (e 61 (by decide) (by decide)) (e 62 (by decide) (by decide)) (e 63 (by decide) (by decide)) (h4c (hu 39 (by decide) (by decide)) (hu 40 (by decide) (by decide)) (hu 41 (by decide) (by decide)) (hu 42 (by decide) (by decide))) (h4c (hu 43 (by decide) (by decide)) (hu 44 (by decide) (by decide)) (hu 45 (by decide) (by decide)) (hu 46 (by decide) (by decide))),
    cf.tr (by rw [e11]) (hu 0 (by decide) (by decide))⟩, kb.tr (xmv_e e0 eb0) (e 52 (by decide) (by decide)) (e 53 (by decide) (by decide)) (e 54 (by decide) (by decide)) (by rw [e11]) (hu 15 (by decide) (by decide)) (congrFun hu2 16) (hu 17 (by decide) (by decide)) (hu 26 (by decide) (by decide)) (hu 27 (by decide) (by decide)), Or.inl rfl, kl.tr (e 57 (by decide) (by decide)) (e 58 (by decide) (by decide)) (e 59 (by decide) (by decide)) (by rw [e11]) (congrFun (hu 33 (by decide) (by decide)) 4) (hu 37 (by decide) (by decide))⟩
  · show u1.1 2 1 = _
    rw [hu 2 (by decide) (by decide), e0]
    exact ct.1.1
  · intro j hj
    rw [xT0_e e0] at hj
    show u1.1 4 j = _
    rw [hu 4 (by decide) (by decide), eb0 j hj]
    exact ct.1.2 j hj
  · show HF (xT1 B) (u1.1 5) = _
    exact HF_b h5
  · show nI (HN (xT1 B) (u1.1 5)) = _
    rw [HN_b h5]
    rfl
  · intro j hj
    show f j = _
    rw [hf j (by rw [HN_b h5]; exact hj), HA_b h5]
    rfl
theorem i01 {a : Int32} (h : 0 ≤ a ∧ a < 2) (h2 : ¬ a = 0) : a = 1 := by grind
theorem c_type {A u : gg_M} {a b : Int32} {Q : Int32 → gg_M → Prop} (hA : WF A) (h : CI A u) (hQ : ∀ v, Fr PC u v → CI (n_type A a b) v → Q (m_type A a b) v) : w_X10_type a b u Q := by
  unfold w_X10_type w_X10_type_c18
  unfold n_type m_type at hQ
  refine isB_s (fun c => t1 ?_) (fun c => t0 ?_)
  · refine isB_s (fun c2 => y1 ?_) (fun c2 => y0 ?_)
    · simp only [if_pos (And.intro c c2)] at hQ
      by_cases c3 : a = 0
      · subst c3
        simp only [if_true] at hQ
        have hn : u.1 2 1 = nI (xT0 A) := h.1.1.1.1.trans hA.1.1
        refine ⟨fun z => absurd rfl z, fun _ => ⟨rfl, takes_s (c := 4) (cap := 60) (by decide) (by decide) (by decide) (by decide) hn hA.1.2 (fun c4 => y1 ?_) (fun c4 => y0 ?_)⟩⟩
        · simp only [if_neg (show ¬ xT0 A = 60 by omega)] at hQ
          refine und0_s (n := xT0 A + 1) (gi_eq _ _ _ _) (by omega) fun f hf => ⟨fun z => absurd rfl z, fun _ => ⟨rfl, ?_⟩⟩
          have e := ty0_T (A := A) (b := b) c4
          have hc : CI (ty0 A b) (un0 (gg_wI (gg_wI u 4 (xT0 A) b) 2 1 (nI (xT0 A + 1))) (xT0 (ty0 A b)) f) := by
            refine CI_t0 h (fun t h1 h2 => ?_) rfl (ty0_b1 c4) (fun t h1 h2 => ?_) ?_ (fun j hj => ?_) (by rw [e]; exact hf)
            · unfold ty0
              rw [gi_nt _ _ _ _ h2, gi_nt _ _ _ _ h1]
            · rw [gi_nt _ _ _ _ h1, gi_nt _ _ _ _ h2]
            · unfold ty0
              rw [gi_eq, gi_eq]
            · rw [e] at hj
              rw [gi_nt _ _ _ _ (by decide)]
              unfold xb0 ty0
              rw [gi_nt _ 48 _ _ (show (47 : Nat) ≠ 48 by decide)]
              by_cases ej : j = xT0 A
              · subst ej
                rw [gi_eq, gi_eq]
              · rw [gi_ne _ _ _ _ ej, gi_ne _ _ _ _ (by omega)]
                exact h.1.1.1.2 j (by omega)
          rw [e] at hc
          refine hQ _ ?_ hc
          unfold un0
          exact (((((Fr.rf.wI rfl).wI rfl).wI rfl).wA (fun _ => rfl)).wI rfl).wI rfl
        · simp only [if_pos c4] at hQ
          exact hQ u Fr.rf h
      · obtain rfl := i01 c c3
        simp only [if_neg c3] at hQ
        have hn : u.1 3 1 = nI (xT1 A) := h.1.1.2.1.trans hA.2.1.1
        refine ⟨fun _ => ⟨rfl, takes_s (c := 5) (cap := 40) (by decide) (by decide) (by decide) (by decide) hn hA.2.1.2 (fun c4 => y1 ?_) (fun c4 => y0 ?_)⟩, fun z => absurd z (by decide)⟩
        · simp only [if_neg (show ¬ xT1 A = 40 by omega)] at hQ
          refine und1_s (n := xT1 A + 1) (gi_eq _ _ _ _) (by omega) fun f hf => ⟨fun _ => ⟨rfl, ?_⟩, fun z => absurd z (by decide)⟩
          have e := ty1_T (A := A) (b := b) c4
          have hc : CI (ty1 A b) (un1 (gg_wI (gg_wI u 5 (xT1 A) b) 3 1 (nI (xT1 A + 1))) (xT1 (ty1 A b)) f) := by
            refine CI_t1 h (fun t h1 h2 => ?_) rfl (fun j hj => ty1_b0 j (by have := hA.1.2; omega)) (fun t h1 h2 => ?_) rfl ?_ (fun j hj => ?_) (by rw [e]; exact hf)
            · unfold ty1
              rw [gi_nt _ _ _ _ h2, gi_nt _ _ _ _ h1]
            · rw [gi_nt _ _ _ _ h1, gi_nt _ _ _ _ h2]
            · unfold ty1
              rw [gi_eq, gi_eq]
            · rw [e] at hj
              rw [gi_nt _ _ _ _ (by decide)]
              unfold xb1 ty1
              rw [gi_nt _ 48 _ _ (show (47 : Nat) ≠ 48 by decide)]
              by_cases ej : j = xT1 A
              · subst ej
                rw [gi_eq, gi_eq]
              · rw [gi_ne _ _ _ _ ej, gi_ne _ _ _ _ (by omega)]
                exact h.1.1.2.2 j (by omega)
          rw [e] at hc
          refine hQ _ ?_ hc
          unfold un1 gcu
          exact (((((Fr.rf.wI rfl).wI rfl).wA (fun _ => rfl)).wI rfl).wI rfl).wI rfl
        · simp only [if_pos c4] at hQ
          exact hQ u Fr.rf h
    · simp only [if_neg (fun z : (0 ≤ a ∧ a < 2) ∧ 0 ≤ b ∧ b < 256 => c2 z.2)] at hQ
      exact hQ u Fr.rf h
  · simp only [if_neg (fun z : (0 ≤ a ∧ a < 2) ∧ 0 ≤ b ∧ b < 256 => c z.1)] at hQ
    exact hQ u Fr.rf h
