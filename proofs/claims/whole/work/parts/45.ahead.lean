/-! the reference's full search -/
def PV (l t j : Nat) : Bool := (t == 51 && decide (256 * (l + 1) ≤ j)) || (t == 56 && decide (32 * l ≤ j))
theorem PV_go {l : Nat} (t j : Nat) (h : PV l t j = false) : PGo l t j = false := by
  simp [PV] at h
  simp [PGo]
  omega
theorem PV_sub {l : Nat} (t j : Nat) (h : PV l t j = false) : PV (l + 1) t j = false := by
  simp [PV] at h ⊢
  omega
def Lv (mv : Nat → Int32) (w : Nat → Nat) (g : Nat → Bool) (S : Nat → Nat → Int32) (l : Nat) (u : gg_M) : Prop :=
  ek7 (u.1 49) mv ∧ (∀ s, s < 32 → u.2 55 s = lN (w s)) ∧ ∀ s, s < 32 → g s = true → ek8 (fun k => u.1 51 (256 * l + 8 * s + k)) (S s) ∧ dz_O mv (S s)
theorem Lv.fr {mv : Nat → Int32} {w : Nat → Nat} {g : Nat → Bool} {S : Nat → Nat → Int32} {l : Nat} {u v : gg_M} (h : Lv mv w g S l u) (hF : Fr (PV l) u v) : Lv mv w g S l v := by
  refine ⟨?_, fun s hs => ?_, fun s hs hg => ⟨fun k hk => ?_, (h.2.2 s hs hg).2⟩⟩
  · rw [hF.i 49 (fun j => by simp [PV])]
    exact h.1
  · rw [(hF 55 s (by simp [PV])).2]
    exact h.2.1 s hs
  · dsimp only
    rw [(hF 51 (256 * l + 8 * s + k) (by simp [PV]; omega)).1]
    exact (h.2.2 s hs hg).1 k hk
/-- an act is done at one level -/
theorem go_s {mv : Nat → Int32} {w : Nat → Nat} {g : Nat → Bool} {S : Nat → Nat → Int32} {l m : Nat} {G : Int32} {u : gg_M} {Q : gg_M → Prop} (hl : l < 3) (hm : m < 10) (hM : dz_M mv) (hG : ∀ s, s < 32 → bt G s = g s) (hL : Lv mv w g S l u)
    (h : ∀ v, Fr (PV l) u v → Lv mv w g S l v → (∀ s, s < 32 → g s = true → v.1 56 (32 * l + s) = dz_s mv (S s) (nI m)) → (∀ x, Lv mv w (gS mv S g (nI m) x) (fun s => dz_n mv (S s) (nI m)) (l + 1) v) → Q v) : w_X11_goesOn (nI l) G (nI m) u Q := by
  have a0 : 0 ≤ nI m := nI_pos' (by omega)
  have a1 : nI m < 10 := (nI_ltI (b := 10) (by omega) (by decide)).mpr hm
  refine goesOn_s rfl hl a0 a1 hL.1 hM hG hL.2.2 fun v hF H1 H2 => ?_
  have hF2 : Fr (PV l) u v := hF.mono PV_go
  have hL2 := hL.fr hF2
  refine h v hF2 hL2 H2 fun x => ⟨hL2.1, hL2.2.1, fun s hs hg => ?_⟩
  have hgs : g s = true := by
    unfold gS at hg
    simp at hg
    exact hg.1
  exact ⟨H1 s hs hgs, dz_n_O hM (hL.2.2 s hs hgs).2 a0 a1⟩
/-- the weight of those that show a sign -/
theorem by2_s {mv : Nat → Int32} {w : Nat → Nat} {g : Nat → Bool} {S : Nat → Nat → Int32} {l m : Nat} {G : Int32} {u : gg_M} {Q : Int64 → gg_M → Prop} (hl : l < 3) (hG : ∀ s, s < 32 → bt G s = g s) (hL : Lv mv w g S l u)
    (hs : ∀ s, s < 32 → g s = true → u.1 56 (32 * l + s) = dz_s mv (S s) (nI m)) (h : Q (lN (gsm (gS mv S g (nI m) 2) w 32)) u) : w_X11_groupBy (nI l) G 2 u (fun v4 u3 => w_X11_weightOf v4 u3 Q) :=
  groupBy_s rfl hl hG hs fun _ hR => mweightOf_s (g := gS mv S g (nI m) 2) hR hL.2.1 h
theorem inOne_s {mv : Nat → Int32} {w : Nat → Nat} {g : Nat → Bool} {S : Nat → Nat → Int32} {l : Nat} {G : Int32} {u : gg_M} {Q : Int64 → gg_M → Prop} (hl : l < 3) (hM : dz_M mv) (hwl : ∀ s, w s ≤ 1048576) (hG : ∀ s, s < 32 → bt G s = g s) (hL : Lv mv w g S l u)
    (h : ∀ v, Fr (PV l) u v → Q (lN (vk mv w 1 g S)) v) : w_X11_inOne (nI l) G u Q := by
  unfold w_X11_inOne w_X11_inOne_c5
  have hgl : gsm g w 32 ≤ 33554432 := gsm_le hwl (by decide)
  let f := av mv w 0 g S
  have hfl : ∀ a, f a ≤ gsm g w 32 := fun a => av_le _ _ _ _ _ _
  have hml : ∀ k, mxs f k ≤ gsm g w 32 := fun k => mxs_le fun a _ => hfl a
  refine gl_up 10 (fun m q => ∃ v, q = (lN (mxs f m), nI m, v) ∧ Fr (PV l) u v) 0 (by decide) ⟨u, rfl, Fr.rf⟩ ?_
  rintro m q hm ⟨v, rfl, hF⟩ k hk
  unfold b_X11_inOne_c5 w_X11_inOne_c46
  dsimp only
  refine ⟨fun c => ?_, fun c => ?_⟩
  · have c : nI 10 ≤ nI m := c
    rw [nI_leI (by decide) (by omega)] at c
    obtain rfl : m = 10 := by omega
    exact h v hF
  · have c : ¬ nI 10 ≤ nI m := c
    rw [nI_leI (by decide) (by omega)] at c
    refine go_s hl (by omega) hM hG (hL.fr hF) fun v1 hF1 hL1 H2 _ => ?_
    refine by2_s hl hG hL1 H2 ?_
    rw [show gsm (gS mv S g (nI m) 2) w 32 = f m from (av_0 _ _ _ _ _).symm, lg_le (by have := hfl m; omega) (by have := hml m; omega), nI_1]
    have es : mxs f (m + 1) = if mxs f m < f m then f m else mxs f m := rfl
    refine ⟨fun c2 => hk (by omega) _ ⟨v1, ?_, hF.tr hF1⟩, fun c2 => hk (by omega) _ ⟨v1, ?_, hF.tr hF1⟩⟩
    · rw [es, if_neg (by omega)]
    · rw [es, if_pos (by omega)]
theorem inTwo_s {mv : Nat → Int32} {w : Nat → Nat} {g : Nat → Bool} {S : Nat → Nat → Int32} {l : Nat} {G : Int32} {u : gg_M} {Q : Int64 → gg_M → Prop} (hl : l < 2) (hM : dz_M mv) (hwl : ∀ s, w s ≤ 1048576) (hG : ∀ s, s < 32 → bt G s = g s) (hL : Lv mv w g S l u)
    (h : ∀ v, Fr (PV l) u v → Q (lN (vk mv w 2 g S)) v) : w_X11_inTwo (nI l) G u Q := by
  unfold w_X11_inTwo w_X11_inTwo_c5
  have hgl : gsm g w 32 ≤ 33554432 := gsm_le hwl (by decide)
  let f := av mv w 1 g S
  have hfl : ∀ a, f a ≤ gsm g w 32 := fun a => av_le _ _ _ _ _ _
  have hml : ∀ k, mxs f k ≤ gsm g w 32 := fun k => mxs_le fun a _ => hfl a
  refine gl_up 10 (fun m q => ∃ v, q = (lN (mxs f m), nI m, v) ∧ Fr (PV l) u v) 0 (by decide) ⟨u, rfl, Fr.rf⟩ ?_
  rintro m q hm ⟨v, rfl, hF⟩ k hk
  unfold b_X11_inTwo_c5
  dsimp only
  refine ⟨fun c => ?_, fun c => ?_⟩
  · have c : nI 10 ≤ nI m := c
    rw [nI_leI (by decide) (by omega)] at c
    obtain rfl : m = 10 := by omega
    exact h v hF
  · have c : ¬ nI 10 ≤ nI m := c
    rw [nI_leI (by decide) (by omega)] at c
    refine go_s (by omega) (by omega) hM hG (hL.fr hF) fun v1 hF1 hL1 H2 H3 => ?_
    refine by2_s (by omega) hG hL1 H2 ?_
    unfold w_X11_inTwo_c36
    have es : mxs f (m + 1) = if mxs f m < f m then f m else mxs f m := rfl
    refine gl_up 7 (fun x q => ∃ v2, q = (lN (gsm (gS mv S g (nI m) 2) w 32 + fb_sm (ak mv w 1 g S m) x), nI x, v2) ∧ Fr (PV (l + 1)) v1 v2) 0 (by decide) ⟨v1, rfl, Fr.rf⟩ ?_
    rintro x q hx ⟨v2, rfl, hF3⟩ kk hkk
    unfold b_X11_inTwo_c36 w_X11_inTwo_c61 w_X11_inTwo_c83 w_X11_inTwo_c105
    dsimp only
    have hF4 : Fr (PV l) u v2 := (hF.tr hF1).tr (hF3.mono PV_sub)
    refine ⟨fun c3 => ?_, fun c3 => ?_⟩
    · have c3 : nI 7 ≤ nI x := c3
      rw [nI_leI (by decide) (by omega)] at c3
      obtain rfl : x = 7 := by omega
      rw [show gsm (gS mv S g (nI m) 2) w 32 + fb_sm (ak mv w 1 g S m) 7 = f m from rfl, lg_le (by have := hfl m; omega) (by have := hml m; omega), nI_1]
      refine ⟨fun c2 => hk (by omega) _ ⟨v2, ?_, hF4⟩, fun c2 => hk (by omega) _ ⟨v2, ?_, hF4⟩⟩
      · rw [es, if_neg (by omega)]
      · rw [es, if_pos (by omega)]
    · have c3 : ¬ nI 7 ≤ nI x := c3
      rw [nI_leI (by decide) (by omega)] at c3
      rw [nI_1, nI_1]
      have no : ak mv w 1 g S m x = 0 → ∀ v1 : Int64, v1 = lN (gsm (gS mv S g (nI m) 2) w 32 + fb_sm (ak mv w 1 g S m) x) + 0 → kk (v1, nI (x + 1), v2) := fun e0 v1 e1 => by
        refine hkk (by omega) _ ⟨v2, ?_, hF3⟩
        rw [e1, fb_sm_succ, e0, show (0 : Int64) = lN 0 from rfl, lN_add]
        rfl
      refine ⟨fun c5 => ?_, fun c5 => ⟨fun z => absurd rfl z, fun _ => no ?_⟩⟩
      · have c5 : ¬ nI x = nI 2 := c5
        rw [nI_eq (by omega) (by decide)] at c5
        refine groupBy_s (x := nI x) (sn := fun s => dz_s mv (S s) (nI m)) rfl (by omega) hG (fun s hs hg => by rw [(hF3 56 (32 * l + s) (by simp [PV]; omega)).1]; exact H2 s hs hg) fun R hR => ⟨fun c6 => ?_, fun c6 => no ?_⟩
        · refine inOne_s (g := gS mv S g (nI m) x) (S := fun s => dz_n mv (S s) (nI m)) (by omega) hM hwl hR ((H3 x).fr hF3) fun v3 hF5 => ?_
          rintro _ rfl
          refine hkk (by omega) _ ⟨v3, ?_, hF3.tr hF5⟩
          rw [fb_sm_succ, ← Nat.add_assoc, ← lN_add _ (ak mv w 1 g S m x)]
          unfold ak
          rw [if_neg c5]
        · unfold ak
          rw [if_neg c5]
          refine vk_emp fun s hs => ?_
          have h9 := hR s hs
          rw [c6, b_0] at h9
          exact h9.symm
      · have c5 : nI x = nI 2 := c5
        rw [nI_eq (by omega) (by decide)] at c5
        unfold ak
        rw [if_pos c5]
def fk (mv : Nat → Int32) (w : Nat → Nat) (n : Nat) (g : Nat → Bool) (S : Nat → Nat → Int32) (tot : Nat) (fl : Int32) (a : Nat) : Nat := if fl = 0 then av mv w n g S a else tot
theorem best90_s {mv : Nat → Int32} {w : Nat → Nat} {g : Nat → Bool} {S : Nat → Nat → Int32} {n tot : Nat} {G a2 a4 : Int32} {u : gg_M} {Q : Int64 → gg_M → Prop} (hn : n < 3) (hM : dz_M mv) (hwl : ∀ s, w s ≤ 1048576) (hG : ∀ s, s < 32 → bt G s = g s) (hL : Lv mv w g S 0 u)
    (ht : u.2 1 12 = lN tot) (htl : tot ≤ 33554432)
    (h : ∀ v, Fr (PV 0) u v → (¬ a2 = 2 → w_X11_lowest (lN (mxs (fk mv w n g S tot a4) 10)) (v.2 1 12) a2 v (fun v20 u19 => w_X11_bestNow_c279 v20 u19 Q)) ∧ (a2 = 2 → w_X11_bestNow_c279 (nI (ams (fk mv w n g S tot a4) 10)).toInt64 v Q)) : w_X11_bestNow_c90 (nI (n + 1)) a2 G a4 (-1) 0 0 u Q := by
  unfold w_X11_bestNow_c90
  let f := fk mv w n g S tot a4
  have hgl : gsm g w 32 ≤ 33554432 := gsm_le hwl (by decide)
  have hfl : ∀ a, f a ≤ 33554432 := fun a => by
    show (if a4 = 0 then av mv w n g S a else tot) ≤ _
    split
    · have := av_le mv w n g S a
      omega
    · exact htl
  have hml : ∀ k, mxs f k ≤ 33554432 := fun k => mxs_le fun a _ => hfl a
  refine gl_up 10 (fun m q => ∃ v A, q = (A, lN (mxs f m), nI m, v) ∧ Fr (PV 0) u v ∧ (m = 0 → A = -1) ∧ (0 < m → A = nI (ams f m))) 0 (by decide) ⟨u, -1, rfl, Fr.rf, fun _ => rfl, fun z => absurd z (by omega)⟩ ?_
  rintro m q hm ⟨v, A, rfl, hF, hA0, hA1⟩ k hk
  unfold b_X11_bestNow_c90
  dsimp only
  refine ⟨fun c => ?_, fun c => ?_⟩
  · have c : nI 10 ≤ nI m := c
    rw [nI_leI (by decide) (by omega)] at c
    obtain rfl : m = 10 := by omega
    rw [hA1 (by decide)]
    exact h v hF
  · have c : ¬ nI 10 ≤ nI m := c
    rw [nI_leI (by decide) (by omega)] at c
    refine go_s (l := 0) (by decide) (by omega) hM hG (hL.fr hF) fun v1 hF1 hL1 H2 H3 => ?_
    have es : mxs f (m + 1) = if mxs f m < f m then f m else mxs f m := rfl
    have ea : ams f (m + 1) = if mxs f m < f m then m else ams f m := rfl
    have last : ∀ v2, Fr (PV 0) u v2 → w_X11_bestNow_c212 (nI (n + 1)) a2 G a4 A (lN (mxs f m)) (nI m) (lN (f m)) v2 k Q := by
      intro v2 hF2
      unfold w_X11_bestNow_c212 w_X11_bestNow_c226 w_X11_bestNow_c233 w_X11_bestNow_c250
      rw [lg_le (by have := hfl m; omega) (by have := hml m; omega), nI_1]
      have nm : ∀ x : Nat, x < 100 → nI x ≠ -1 := fun x hx e => by
        have : (0 : Int32) ≤ nI x := nI_pos' (by omega)
        rw [e] at this
        exact absurd this (by decide)
      have amb : ∀ k, ams f k ≤ k := fun k => by
        induction k with
        | zero => exact Nat.le_refl _
        | succ k ih =>
          show (if mxs f k < f k then k else ams f k) ≤ _
          split <;> omega
      rcases Nat.eq_zero_or_pos m with e | e
      · rw [hA0 e]
        subst e
        have z1 : mxs f 0 = 0 := rfl
        have z2 : ams f 0 = 0 := rfl
        refine ⟨fun _ => ⟨fun c2 => hk (by omega) _ ⟨v2, nI 0, ?_, hF2, fun z => absurd z (by omega), fun _ => ?_⟩, fun c2 => hk (by omega) _ ⟨v2, nI 0, ?_, hF2, fun z => absurd z (by omega), fun _ => ?_⟩⟩, fun z => absurd rfl z⟩
        · rw [es, if_neg (by omega)]
        · rw [ea, if_neg (by omega), z2]
        · rw [es, if_pos (by omega)]
        · rw [ea, if_pos (by omega)]
      · rw [hA1 e]
        refine ⟨fun c2 => absurd c2 (nm _ (by have := amb m; omega)), fun _ => ⟨fun c2 => ⟨fun _ => hk (by omega) _ ⟨v2, nI (ams f m), ?_, hF2, fun z => absurd z (by omega), fun _ => ?_⟩, fun z => absurd c2 z⟩, fun c2 => ⟨fun z => absurd z c2, fun _ => hk (by omega) _ ⟨v2, nI m, ?_, hF2, fun z => absurd z (by omega), fun _ => ?_⟩⟩⟩⟩
        · rw [es, if_neg (by omega)]
        · rw [ea, if_neg (by omega)]
        · rw [es, if_pos (by omega)]
        · rw [ea, if_pos (by omega)]
    refine ⟨fun c4 => by2_s (l := 0) (by decide) hG hL1 H2 ?_, fun c4 => ?_⟩
    · unfold w_X11_bestNow_c128 w_X11_bestNow_c133
      have efm : f m = av mv w n g S m := if_pos c4
      refine gl_up 7 (fun x q => ∃ v2, q = (lN (gsm (gS mv S g (nI m) 2) w 32 + fb_sm (ak mv w n g S m) x), nI x, v2) ∧ Fr (PV 1) v1 v2) 0 (by decide) ⟨v1, rfl, Fr.rf⟩ ?_
      rintro x q hx ⟨v2, rfl, hF3⟩ kk hkk
      have hF4 : Fr (PV 0) u v2 := (hF.tr hF1).tr (hF3.mono PV_sub)
      unfold b_X11_bestNow_c133 w_X11_bestNow_c168 w_X11_bestNow_c203
      dsimp only
      have dn : x = 7 ∨ n = 0 → w_X11_bestNow_c212 (nI (n + 1)) a2 G a4 A (lN (mxs f m)) (nI m) (lN (gsm (gS mv S g (nI m) 2) w 32 + fb_sm (ak mv w n g S m) x)) v2 k Q := by
        intro e
        rw [show gsm (gS mv S g (nI m) 2) w 32 + fb_sm (ak mv w n g S m) x = f m from ?_]
        · exact last v2 hF4
        · rw [efm]
          rcases e with rfl | rfl
          · rfl
          · rw [av_0, fb_sm_cong (g := fun _ => 0) (fun z _ => by unfold ak; split <;> rfl), fb_sm_const]
            omega
      refine ⟨fun c3 => dn (Or.inl ?_), fun c3 => ⟨fun c5 => dn (Or.inr ?_), fun c5 => ⟨fun z => absurd c4 z, fun _ => ?_⟩⟩⟩
      · have c3 : nI 7 ≤ nI x := c3
        rw [nI_leI (by decide) (by omega)] at c3
        omega
      · have c5 : nI (n + 1) ≤ nI 1 := c5
        rw [nI_leI (by omega) (by decide)] at c5
        omega
      · have c3 : ¬ nI 7 ≤ nI x := c3
        rw [nI_leI (by decide) (by omega)] at c3
        have c5 : ¬ nI (n + 1) ≤ nI 1 := c5
        rw [nI_leI (by omega) (by decide)] at c5
        rw [nI_1]
        have no : ak mv w n g S m x = 0 → ∀ v1 : Int64, v1 = lN (gsm (gS mv S g (nI m) 2) w 32 + fb_sm (ak mv w n g S m) x) + 0 → kk (v1, nI (x + 1), v2) := fun e0 v1 e1 => by
          refine hkk (by omega) _ ⟨v2, ?_, hF3⟩
          rw [e1, fb_sm_succ, e0, show (0 : Int64) = lN 0 from rfl, lN_add]
          rfl
        refine ⟨fun c6 => ?_, fun c6 => ⟨fun z => absurd rfl z, fun _ => no ?_⟩⟩
        · have c6 : ¬ nI x = nI 2 := c6
          rw [nI_eq (by omega) (by decide)] at c6
          refine groupBy_s (l := 0) (x := nI x) (sn := fun s => dz_s mv (S s) (nI m)) rfl (by omega) hG (fun s hs hg => by rw [(hF3 56 (32 * 0 + s) (by simp [PV]; omega)).1]; exact H2 s hs hg) fun R hR => ⟨fun c7 => ⟨fun c8 => ?_, fun c8 => ?_⟩, fun c7 => no ?_⟩
          · have c8 : ¬ nI (n + 1) = nI 2 := c8
            rw [nI_eq (by omega) (by decide)] at c8
            obtain rfl : n = 2 := by omega
            refine inTwo_s (l := 1) (g := gS mv S g (nI m) x) (S := fun s => dz_n mv (S s) (nI m)) (by omega) hM hwl hR ((H3 x).fr hF3) fun v3 hF5 => ?_
            rintro _ rfl
            refine hkk (by omega) _ ⟨v3, ?_, hF3.tr hF5⟩
            rw [fb_sm_succ, ← Nat.add_assoc, ← lN_add _ (ak mv w 2 g S m x)]
            unfold ak
            rw [if_neg c6]
          · have c8 : nI (n + 1) = nI 2 := c8
            rw [nI_eq (by omega) (by decide)] at c8
            obtain rfl : n = 1 := by omega
            refine inOne_s (l := 1) (g := gS mv S g (nI m) x) (S := fun s => dz_n mv (S s) (nI m)) (by omega) hM hwl hR ((H3 x).fr hF3) fun v3 hF5 => ?_
            rintro _ rfl
            refine hkk (by omega) _ ⟨v3, ?_, hF3.tr hF5⟩
            rw [fb_sm_succ, ← Nat.add_assoc, ← lN_add _ (ak mv w 1 g S m x)]
            unfold ak
            rw [if_neg c6]
          · unfold ak
            rw [if_neg c6]
            refine vk_emp fun s hs => ?_
            have h9 := hR s hs
            rw [c7, b_0] at h9
            exact h9.symm
        · have c6 : nI x = nI 2 := c6
          rw [nI_eq (by omega) (by decide)] at c6
          unfold ak
          rw [if_pos c6]
    · unfold w_X11_bestNow_c128 w_X11_bestNow_c133
      have hF4 : Fr (PV 0) u v1 := hF.tr hF1
      have efm : f m = tot := if_neg c4
      rw [(hF4 1 12 (by simp [PV])).2, ht, ← efm]
      refine gl_up 7 (fun x q => x = 0 ∧ q = (lN (f m), nI x, v1)) 0 (by decide) ⟨rfl, rfl⟩ ?_
      rintro x q hx ⟨rfl, rfl⟩ kk hkk
      unfold b_X11_bestNow_c133
      dsimp only
      refine ⟨fun c3 => last v1 hF4, fun c3 => ⟨fun c5 => last v1 hF4, fun c5 => ⟨fun _ => last v1 hF4, fun z => absurd z c4⟩⟩⟩
/-- do all of a group run? -/
def alr (g : Nat → Bool) (r : Nat → Int32) : Nat → Bool
  | 0 => true
  | m + 1 => alr g r m && (!(g m) || decide (r m = 1))
theorem best30_s {g : Nat → Bool} {G a1 a2 : Int32} {u : gg_M} {Q : Int64 → gg_M → Prop} (hG : ∀ s, s < 32 → bt G s = g s) (h : w_X11_bestNow_c90 a1 a2 G (b2i (alr g (fun s => u.1 51 (8 * s + 7)) 32)) (-1) 0 0 u Q) : w_X11_bestNow_c30 a1 a2 G 1 0 u Q := by
  unfold w_X11_bestNow_c30
  refine gl_up 32 (fun m q => q = (b2i (alr g (fun s => u.1 51 (8 * s + 7)) m), nI m, u)) 0 (by decide) rfl ?_
  rintro m q hm rfl k hk
  unfold b_X11_bestNow_c30 w_X11_bestNow_c72 w_X11_bestNow_c68 w_X11_bestNow_c73
  dsimp only
  refine ⟨fun c => ?_, fun c => ?_⟩
  · have c : nI 32 ≤ nI m := c
    rw [nI_leI (by decide) (by omega)] at c
    obtain rfl : m = 32 := by omega
    exact h
  · have c : ¬ nI 32 ≤ nI m := c
    rw [nI_leI (by decide) (by omega)] at c
    have hm32 : m < 32 := by omega
    rw [b2i_0, nI_1]
    have es : alr g (fun s => u.1 51 (8 * s + 7)) (m + 1) = (alr g (fun s => u.1 51 (8 * s + 7)) m && (!(g m) || decide (u.1 51 (8 * m + 7) = 1))) := rfl
    have go : ∀ b, b = alr g (fun s => u.1 51 (8 * s + 7)) (m + 1) → k (b2i b, nI (m + 1), u) := fun b e => hk hm32 _ (by rw [e])
    refine ⟨fun c2 => go false (by rw [es, c2]; rfl), fun c2 => p_X11_isIn ?_⟩
    have c2 : alr g (fun s => u.1 51 (8 * s + 7)) m = true := by
      cases hh : alr g (fun s => u.1 51 (8 * s + 7)) m
      · exact absurd hh c2
      · rfl
    cases hg : g m
    · rw [if_neg (fun z => by have := (bx_s G hm32).mp z; rw [hG m hm32, hg] at this; cases this)]
      exact ⟨fun _ => go true (by rw [es, c2, hg]; rfl), fun z => absurd rfl z⟩
    · rw [if_pos ((bx_s G hm32).mpr (by rw [hG m hm32]; exact hg))]
      have e3 : (8 : Int32) * nI m + 7 = nI (8 * m + 7) := by rw [show (8 : Int32) = nI 8 from rfl, pk_mul, show (7 : Int32) = nI 7 from rfl, nI_add]
      rw [e3, nI_clamp (by omega)]
      refine ⟨fun z => absurd z (by decide), fun _ => ⟨vp_in_nI (by omega) (by decide), fun c3 => go false ?_, fun c3 => go true ?_⟩⟩
      · rw [es, c2, hg]
        simp [c3]
      · rw [es, c2, hg]
        simp [c3]
