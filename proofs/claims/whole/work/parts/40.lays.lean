/-! the reference lays all sets -/
theorem dz_mv {mv nv st : Nat → Int32} (h : ek7 mv nv) (a : Int32) : dz_s mv st a = dz_s nv st a ∧ dz_n mv st a = dz_n nv st a := by
  have h0 := h 0 (by decide)
  have h1 := h 1 (by decide)
  have h2 := h 2 (by decide)
  have h3 := h 3 (by decide)
  have h4 := h 4 (by decide)
  have h5 := h 5 (by decide)
  have hco : dz_cost mv a = dz_cost nv a := by unfold dz_cost; rw [h4]
  have hpay : dz_pay mv st a = dz_pay nv st a := by unfold dz_pay; rw [hco]
  have key : ∀ f : Nat → Int32, dz_ts mv f a = dz_ts nv f a ∧ dz_tdn mv f a = dz_tdn nv f a ∧ dz_tn mv f a = dz_tn nv f a := by
    intro f
    have hdr : dz_drawn mv f a = dz_drawn nv f a := by unfold dz_drawn; rw [h3]
    have hmx : dz_mix mv f a = dz_mix nv f a := by unfold dz_mix; rw [hdr, h4]
    have hwl : dz_wall mv f a = dz_wall nv f a := by unfold dz_wall; rw [hdr, h4]
    have hts : dz_ts mv f a = dz_ts nv f a := by unfold dz_ts dz_fat dz_push dz_time; rw [hmx, h0, h1, h2]
    refine ⟨hts, by unfold dz_tdn; rw [h5], ?_⟩
    unfold dz_tn
    rw [hts, hmx, hwl]
  obtain ⟨k1, k2, k3⟩ := key (dz_pay nv st a)
  unfold dz_s dz_n dz_can
  rw [hco, hpay, k1, k2, k3]
  exact ⟨rfl, rfl⟩
theorem rn_mv {mv nv ac : Nat → Int32} (h : ek7 mv nv) (s : Nat) : ∀ k, rn mv ac s k = rn nv ac s k
  | 0 => by
    unfold rn dz_0
    rw [h 5 (by decide), h 6 (by decide)]
  | k + 1 => by
    rw [rn, rn, rn_mv h s k]
    exact (dz_mv h _).2
theorem rn_ac {mv ac bc : Nat → Int32} (s : Nat) : ∀ k, (∀ j, j < k → ac j = bc j) → rn mv ac s k = rn mv bc s k
  | 0, _ => rfl
  | k + 1, h => by
    rw [rn, rn, rn_ac s k (fun j hj => h j (by omega)), h k (by omega)]
theorem agb_mv {mv nv ac sg : Nat → Int32} (h : ek7 mv nv) (s : Nat) : ∀ k, agb mv ac sg s k = agb nv ac sg s k
  | 0 => rfl
  | k + 1 => by
    rw [agb, agb, agb_mv h s k, rn_mv h, (dz_mv h _).1]
theorem agb_ac {mv ac bc sg tg : Nat → Int32} (s : Nat) : ∀ k, (∀ j, j < k → ac j = bc j ∧ sg j = tg j) → agb mv ac sg s k = agb mv bc tg s k
  | 0, _ => rfl
  | k + 1, h => by
    rw [agb, agb, agb_ac s k (fun j hj => h j (by omega)), rn_ac s k (fun j hj => (h j (by omega)).1), (h k (by omega)).1, (h k (by omega)).2]
theorem dz_M_mv {mv nv : Nat → Int32} (h : ek7 mv nv) (hM : dz_M mv) : dz_M nv := by
  unfold dz_M at hM ⊢
  rwa [h 0 (by decide), h 1 (by decide), h 2 (by decide), h 3 (by decide), h 4 (by decide), h 5 (by decide), h 6 (by decide)] at hM
theorem wpr_hd {hd gd : Nat → Int32} {wo : Int32} {s : Nat} (h : ∀ t, t < 5 → hd t = gd t) : ∀ k, k ≤ 5 → wpr hd wo s k = wpr gd wo s k
  | 0, _ => rfl
  | k + 1, hk => by
    rw [wpr, wpr, wpr_hd h k (by omega)]
    unfold wfac
    rw [h k (by omega)]
theorem gx_ij {b : Nat} {A : Int32} (j : Nat) (K : Int32) (hb : b + 8 ≤ 1024) (hA : A = nI b) (hK : K = nI j) (hj : j < 8) : vp_in (A + K) 1024 ∧ (A + K).toNatClampNeg = b + j := by
  subst hA
  exact gx_ix K hb hj hK
theorem begins_s {lev set : Int32} {b : Nat} {u : gg_M} {Q : gg_M → Prop} (hi : 256 * lev + 8 * set = nI b) (hb : b + 8 ≤ 1024) (h : ∀ st, (∀ k, k < 8 → st k = dz_mk (fun _ => 0) (u.1 49 5) (u.1 49 6) 0 0 0 0 set 0 k) → Q (gg_wA u 51 (gp8 (u.1 51) b st))) : w_X11_begins lev set u Q := by
  unfold w_X11_begins
  rintro v6 rfl
  rw [hi]
  have i0 := gx_i0 hb
  have i1 := gx_ix 1 hb (show 1 < 8 by decide) rfl
  have i6 := gx_ix 6 hb (show 6 < 8 by decide) rfl
  refine ⟨i0.1, ?_⟩
  rintro _ rfl
  refine ⟨i1.1, ?_⟩
  rintro _ rfl
  have e1 : gg_wI (gg_wI u 51 (nI b).toNatClampNeg (u.1 49 5)) 51 (nI b + 1).toNatClampNeg ((gg_wI u 51 (nI b).toNatClampNeg (u.1 49 5)).1 49 6) = gg_wA u 51 (gp8 (u.1 51) b (upd (upd (fun k => u.1 51 (b + k)) 0 (u.1 49 5)) 1 (u.1 49 6))) := by
    rw [i0.2, i1.2, gi_nt _ _ _ _ (show (49 : Nat) ≠ 51 by decide)]
    simp only [gm_I, gm_AA, gg_wA_1]
    rw [← gp8_upd _ _ _ _ (show 1 < 8 by decide), ← gp8_u0, gp8_self]
  rw [e1]
  unfold w_X11_begins_c41
  refine gl_up 8 (fun k s => ∃ st, s = (nI k, gg_wA u 51 (gp8 (u.1 51) b st)) ∧ 2 ≤ k ∧ st 0 = u.1 49 5 ∧ st 1 = u.1 49 6 ∧ ∀ j, 2 ≤ j → j < k → st j = 0) 2 (by decide) ⟨_, rfl, Nat.le_refl 2, rfl, rfl, fun j h1 h2 => absurd h2 (by omega)⟩ ?_
  rintro k s hk ⟨st, rfl, hk2, s0, s1, sj⟩ k41 hk41
  unfold b_X11_begins_c41
  dsimp only
  refine ⟨fun c => ⟨i6.1, ?_⟩, fun c => ?_⟩
  · have c : nI 8 ≤ nI k := c
    rw [nI_leI (by decide) (by omega)] at c
    obtain rfl : k = 8 := by omega
    rintro _ rfl
    have e2 : gg_wI (gg_wA u 51 (gp8 (u.1 51) b st)) 51 (nI b + 6).toNatClampNeg set = gg_wA u 51 (gp8 (u.1 51) b (upd st 6 set)) := by
      simp only [gm_I, gm_AA, gg_wA_1, i6.2, gp8_upd _ _ b _ (show 6 < 8 by decide)]
    rw [e2]
    exact h _ (lt8 s0 s1 (sj 2 (by omega) (by omega)) (sj 3 (by omega) (by omega)) (sj 4 (by omega) (by omega)) (sj 5 (by omega) (by omega)) rfl (sj 7 (by omega) (by omega)))
  · have c : ¬ nI 8 ≤ nI k := c
    rw [nI_leI (by decide) (by omega)] at c
    have ik := gx_ix (nI k) hb (show k < 8 by omega) rfl
    refine ⟨ik.1, ?_⟩
    rintro _ rfl
    rw [nI_1]
    refine hk41 (by omega) _ ⟨upd st k 0, ?_, by omega, ?_, ?_, fun j h1 h2 => ?_⟩
    · simp only [gm_I, gm_AA, gg_wA_1, ik.2, gp8_upd _ _ b _ (show k < 8 by omega)]
    · rw [upd_ne _ _ (by omega)]
      exact s0
    · rw [upd_ne _ _ (by omega)]
      exact s1
    · by_cases e : j = k
      · subst e
        rw [upd_self]
      · rw [upd_ne _ _ e]
        exact sj j h1 (by omega)
theorem gp8_gp8 (F st st1 : Nat → Int32) (b : Nat) : gp8 (gp8 F b st) b st1 = gp8 F b st1 := by
  funext j
  unfold gp8
  split <;> rfl
theorem lays_c29 {s ns : Nat} {u : gg_M} {mv : Nat → Int32} {k12 : Int32 × gg_M → Prop} {Q : gg_M → Prop} (hmv : ek7 (u.1 49) mv) (hM : dz_M mv) (hns : u.1 1 8 = nI ns) (hS : okS (u.1 53) (u.1 54) ns) (hs : s < 32)
    (h : ∀ st, ek8 st (rn mv (u.1 53) s ns) → (agb mv (u.1 53) (u.1 54) s ns = false → w_X11_lays_c107 (nI s) (nI s) 0 (gg_wA u 51 (gp8 (u.1 51) (8 * s) st)) k12 Q) ∧ (agb mv (u.1 53) (u.1 54) s ns = true → w_X11_partsOf (nI s) (gg_wA u 51 (gp8 (u.1 51) (8 * s) st)) (fun v10 u9 => w_X11_lays_c107 (nI s) (nI s) v10 u9 k12 Q)))
    {st0 : Nat → Int32} (h0 : ek8 st0 (dz_0 mv s)) : w_X11_lays_c29 (nI s) 1 0 (gg_wA u 51 (gp8 (u.1 51) (8 * s) st0)) k12 Q := by
  unfold w_X11_lays_c29
  refine gl_up ns (fun i q => ∃ st, q = (b2i (agb mv (u.1 53) (u.1 54) s i), nI i, gg_wA u 51 (gp8 (u.1 51) (8 * s) st)) ∧ ek8 st (rn mv (u.1 53) s i)) 0 (by omega) ⟨st0, rfl, h0⟩ ?_
  rintro i q hi ⟨st, rfl, hst⟩ k hk
  unfold b_X11_lays_c29 w_X11_lays_c66 w_X11_lays_c81 w_X11_lays_c82
  dsimp only
  have n1 : ∀ f, (gg_wA u 51 f).1 1 = u.1 1 := fun f => gg_wA_n _ _ (by decide)
  have n53 : ∀ f, (gg_wA u 51 f).1 53 = u.1 53 := fun f => gg_wA_n _ _ (by decide)
  have n54 : ∀ f, (gg_wA u 51 f).1 54 = u.1 54 := fun f => gg_wA_n _ _ (by decide)
  have h24 := hS.1
  rw [n1, hns, n53]
  refine ⟨fun c => ?_, fun c => ?_⟩
  · rw [nI_leI (by omega) (by omega)] at c
    obtain rfl : i = ns := by omega
    refine ⟨fun c2 => (h st hst).1 ((b2i_0 _).mp c2), fun c2 => (h st hst).2 ?_⟩
    cases hb : agb mv (u.1 53) (u.1 54) s i
    · exact absurd ((b2i_0 _).mpr hb) c2
    · rfl
  · rw [nI_leI (by omega) (by omega)] at c
    have hlt : i < ns := by omega
    obtain ⟨⟨l0, l1⟩, -⟩ := hS.2 i hlt
    have hO := rn_O (mv := mv) (ac := u.1 53) hM hs i (fun j hj => (hS.2 j (by omega)).1)
    refine ⟨vp_in_nI (by omega) (by decide), ?_⟩
    rw [nI_clamp (by omega)]
    obtain ⟨d1, d2⟩ := dz_mv (st := st) hmv (u.1 53 i)
    obtain ⟨g1, g2⟩ := dz_congr (mv := mv) hst (u.1 53 i)
    refine p_mdoes (b := 8 * s) ?_ (by omega) (dz_M_mv (fun j hj => (hmv j hj).symm) hM) ?_ l0 (by grind) ?_
    · rw [show (256 : Int32) * 0 = nI 0 from rfl, show (8 : Int32) = nI 8 from rfl, pk_mul, nI_add]
      congr 1
      omega
    · have := dz_O_congr hst.sy hO
      unfold dz_O at this ⊢
      rwa [hmv 5 (by decide)]
    refine ⟨vp_in_nI (by omega) (by decide), ?_⟩
    rw [n54, d1, g1, d2, nI_1]
    have fin : ∀ z, z = b2i (decide (dz_s mv (rn mv (u.1 53) s i) (u.1 53 i) = u.1 54 i)) → (b2i (agb mv (u.1 53) (u.1 54) s i) = 0 → k (0, nI (i + 1), gg_wA u 51 (gp8 (u.1 51) (8 * s) (dz_n mv st (u.1 53 i))))) ∧ (¬ b2i (agb mv (u.1 53) (u.1 54) s i) = 0 → (z = 0 → k (0, nI (i + 1), gg_wA u 51 (gp8 (u.1 51) (8 * s) (dz_n mv st (u.1 53 i))))) ∧ (¬ z = 0 → k (1, nI (i + 1), gg_wA u 51 (gp8 (u.1 51) (8 * s) (dz_n mv st (u.1 53 i)))))) := by
      rintro z rfl
      have go : ∀ y, y = b2i (agb mv (u.1 53) (u.1 54) s (i + 1)) → k (y, nI (i + 1), gg_wA u 51 (gp8 (u.1 51) (8 * s) (dz_n mv st (u.1 53 i)))) := by
        rintro y rfl
        exact hk hlt _ ⟨_, rfl, g2⟩
      rw [agb] at go
      rw [b2i_0, b2i_0]
      refine ⟨fun c2 => go 0 (by rw [c2]; rfl), fun c2 => ⟨fun c3 => go 0 (by rw [c3, Bool.and_false]; rfl), fun c3 => go 1 ?_⟩⟩
      have c2 : agb mv (u.1 53) (u.1 54) s i = true := by simpa using c2
      have c3 : decide (dz_s mv (rn mv (u.1 53) s i) (u.1 53 i) = u.1 54 i) = true := by simpa using c3
      rw [c2, c3]
      rfl
    exact ⟨fun c3 => fin 0 (by rw [decide_eq_false c3]; rfl), fun c3 => fin 1 (by rw [decide_eq_true c3]; rfl)⟩
/-- the reference's scratch that lays() may change -/
def PLy (t j : Nat) : Bool := t == 49 || t == 51 || t == 55 || (t == 1 && (j == 5 || j == 12))
theorem lays_s {n ns : Nat} {u : gg_M} {b : Nat → Int32} {Q : gg_M → Prop} (hb : b = fun j => u.1 47 (60 * 0 + j)) (hn : u.1 48 0 = nI n) (hl : n ≤ 60) (hA : okA (u.1 52)) (hns : u.1 1 8 = nI ns) (hS : okS (u.1 53) (u.1 54) ns)
    (h : ∀ v, Fr PLy u v → ek7 (v.1 49) (MV n b) → (∀ s, s < 32 → ek8 (fun k => v.1 51 (8 * s + k)) (rn (MV n b) (u.1 53) s ns)) → (∀ s, s < 32 → v.2 55 s = lN (wB (MV n b) (u.1 52) (u.1 53) (u.1 54) ns s)) → v.2 1 12 = lN (fb_sm (wB (MV n b) (u.1 52) (u.1 53) (u.1 54) ns) 32) → Q v) : w_X11_lays u Q := by
  unfold w_X11_lays
  refine motorNow_s hb hn hl fun f p hf => ?_
  rintro _ rfl
  have hM := okM_M (MV_ok n b)
  generalize MV n b = mv at *
  unfold w_X11_lays_c12
  refine gl_up 32 (fun m q => ∃ v, q = (nI m, v) ∧ Fr PLy u v ∧ ek7 (v.1 49) mv ∧ (∀ s, s < m → ek8 (fun k => v.1 51 (8 * s + k)) (rn mv (u.1 53) s ns)) ∧ (∀ s, s < m → v.2 55 s = lN (wB mv (u.1 52) (u.1 53) (u.1 54) ns s)) ∧ v.2 1 12 = lN (fb_sm (wB mv (u.1 52) (u.1 53) (u.1 54) ns) m)) 0 (by decide) ⟨_, rfl, ?_, ?_, fun s hs => absurd hs (by omega), fun s hs => absurd hs (by omega), ?_⟩ ?_
  · unfold mmu
    exact ((Fr.rf.wA (fun _ => rfl)).wI rfl).wL rfl
  · show ek7 ((mmu u f p).1 49) mv
    rw [mmu_v]
    exact hf
  · exact gl_eq _ _ _ _
  rintro m q hm ⟨v, rfl, hF, h49, h51, h55, hall⟩ k hk
  have c52 : v.1 52 = u.1 52 := hF.i 52 (fun _ => rfl)
  have c53 : v.1 53 = u.1 53 := hF.i 53 (fun _ => rfl)
  have c54 : v.1 54 = u.1 54 := hF.i 54 (fun _ => rfl)
  have c18 : v.1 1 8 = u.1 1 8 := (hF 1 8 rfl).1
  unfold b_X11_lays_c12
  dsimp only
  refine ⟨fun c => ?_, fun c => ?_⟩
  · have c : nI 32 ≤ nI m := c
    rw [nI_leI (by decide) (by omega)] at c
    obtain rfl : m = 32 := by omega
    exact h v hF h49 h51 h55 hall
  · have c : ¬ nI 32 ≤ nI m := c
    rw [nI_leI (by decide) (by omega)] at c
    have hm32 : m < 32 := by omega
    refine begins_s (b := 8 * m) ?_ (by omega) fun st0 hst0 => ?_
    · rw [show (256 : Int32) * 0 = nI 0 from rfl, show (8 : Int32) = nI 8 from rfl, pk_mul, nI_add]
      congr 1
      omega
    refine lays_c29 (mv := mv) (ns := ns) h49 hM (by rw [c18]; exact hns) (by rw [c53, c54]; exact hS) hm32 ?_ ?_
    · rw [c53, c54]
      intro st hst
      have fin : ∀ z, z = lN (wB mv (u.1 52) (u.1 53) (u.1 54) ns m) → w_X11_lays_c107 (nI m) (nI m) z (gg_wA v 51 (gp8 (v.1 51) (8 * m) st)) k Q := by
        rintro z rfl
        unfold w_X11_lays_c107
        have hv32 : vp_in (nI m) 32 := vp_in_nI hm32 (by decide)
        rw [nI_clamp (by omega), nI_1]
        refine ⟨hv32, ?_⟩
        rintro _ rfl
        refine ⟨hv32, ?_⟩
        rintro _ rfl
        refine hk hm32 _ ⟨_, rfl, ((hF.wA (fun _ => rfl)).wL rfl).wL rfl, ?_, ?_, ?_, ?_⟩
        · show ek7 ((gg_wA v 51 (gp8 (v.1 51) (8 * m) st)).1 49) mv
          rw [gg_wA_n _ _ (by decide)]
          exact h49
        · intro s hs
          show ek8 (fun k => (gg_wA v 51 (gp8 (v.1 51) (8 * m) st)).1 51 (8 * s + k)) _
          rw [gg_wA_1]
          by_cases e : s = m
          · subst e
            intro j hj
            show gp8 (v.1 51) (8 * s) st (8 * s + j) = _
            rw [gp8_at _ _ _ hj]
            exact hst j hj
          · intro j hj
            show gp8 (v.1 51) (8 * m) st (8 * s + j) = _
            rw [gp8_out _ _ _ (by omega)]
            exact h51 s (by omega) j hj
        · intro s hs
          rw [gl_nt _ _ _ _ (show (55 : Nat) ≠ 1 by decide)]
          by_cases e : s = m
          · subst e
            exact gl_eq _ _ _ _
          · rw [gl_ne _ _ _ _ e]
            exact h55 s (by omega)
        · rw [gl_eq, gl_eq, gl_nt _ _ _ _ (show (1 : Nat) ≠ 55 by decide)]
          show v.2 1 12 + _ = _
          rw [hall, lN_add]
          rfl
      refine ⟨fun c2 => fin 0 ?_, fun c2 => partsOf_s hm32 ?_ ?_⟩
      · unfold wB
        rw [c2]
        rfl
      · rw [gg_wA_n _ _ (by decide), c52]
        exact hA
      · rw [gg_wA_n _ _ (show (52 : Nat) ≠ 51 by decide), c52]
        refine fin _ ?_
        unfold wB
        rw [c2]
        rfl
    · intro j hj
      rw [hst0 j hj]
      unfold dz_0
      rw [h49 5 (by decide), h49 6 (by decide)]
