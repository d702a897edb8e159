/-! the law: its loop -/
theorem law_s {N : Nat} {xs : Nat → Int32} {u : gg_M} {Q : Int32 → gg_M → Prop} (hN : N ≤ 3072) (h0 : law_I u) (hQ : ∀ v, Q 1 v) : w_L_law N xs u Q := by
  unfold w_L_law w_L_law_c18
  refine gl_me (fun q => ∃ j : Nat, j ≤ 3078 ∧ q.1 = nI j ∧ law_I q.2) (fun q => 4000 - q.1.toNatClampNeg) ⟨0, by decide, rfl, h0⟩ ?_
  rintro ⟨i, v⟩ ⟨j, hj, e, hv⟩ k hk
  have e : i = nI j := e
  subst e
  unfold b_L_law_c18 w_L_law_c1247
  dsimp only
  refine ⟨fun _ => hQ _, fun c => ?_⟩
  have hb := law_b hN hj c
  have nx : ∀ w, law_I w → k (nI j + 6, w) := fun w hw => by
    have e6 : nI j + 6 = nI (j + 6) := nI_add j 6
    rw [e6]
    refine hk _ ⟨j + 6, by omega, rfl, hw⟩ ?_
    show 4000 - (nI (j + 6)).toNatClampNeg < 4000 - (nI j).toNatClampNeg
    rw [nI_clamp (by omega), nI_clamp (by omega)]
    omega
  have i0 : vp_in (nI j) N := vp_in_nI (by omega) (by omega)
  have i1 : vp_in (nI j + 1) N := by rw [show nI j + 1 = nI (j + 1) from nI_add j 1]; exact vp_in_nI (by omega) (by omega)
  have i2 : vp_in (nI j + 2) N := by rw [show nI j + 2 = nI (j + 2) from nI_add j 2]; exact vp_in_nI (by omega) (by omega)
  have i3 : vp_in (nI j + 3) N := by rw [show nI j + 3 = nI (j + 3) from nI_add j 3]; exact vp_in_nI (by omega) (by omega)
  have i4 : vp_in (nI j + 4) N := by rw [show nI j + 4 = nI (j + 4) from nI_add j 4]; exact vp_in_nI (by omega) (by omega)
  have i5 : vp_in (nI j + 5) N := by rw [show nI j + 5 = nI (j + 5) from nI_add j 5]; exact vp_in_nI (by omega) (by omega)
  obtain ⟨A, hA, hC, hR⟩ := hv
  refine ⟨i0, fun v3 _ => ?_⟩
  refine ⟨fun _ => ?_, ?_⟩
  · refine ⟨i1, i2, law_type hA hC hR (fun x u1 z => ⟨i1, i2, z⟩) (fun x w h => ⟨fun _ => nx w h, fun z => absurd (rfl) z⟩)⟩
  refine ⟨fun _ => ?_, ?_⟩
  · refine ⟨i1, law_wipe hA hC hR (fun x u1 z => ⟨i1, z⟩) (fun x w h => ⟨fun _ => nx w h, fun z => absurd (rfl) z⟩)⟩
  refine ⟨fun _ => ?_, ?_⟩
  · refine ⟨i1, law_fault hA hC hR (fun x u1 z => ⟨i1, z⟩) (fun x w h => ⟨fun _ => nx w h, fun z => absurd (rfl) z⟩)⟩
  refine ⟨fun _ => ?_, ?_⟩
  · refine ⟨i1, law_motor hA hC hR (fun x u1 z => ⟨i1, z⟩) (fun x w h => ⟨fun _ => nx w h, fun z => absurd (rfl) z⟩)⟩
  refine ⟨fun _ => ?_, ?_⟩
  · refine ⟨i1, i2, law_ahead hA hC hR (fun x u1 z => ⟨i1, i2, z⟩) (fun x w h => ⟨fun _ => nx w h, fun z => absurd (rfl) z⟩)⟩
  refine ⟨fun _ => ?_, ?_⟩
  · refine ⟨i1, i2, law_see hA hC hR (fun x u1 z => ⟨i1, i2, z⟩) (fun x w h => ⟨fun _ => nx w h, fun z => absurd (rfl) z⟩)⟩
  refine ⟨fun _ => ?_, ?_⟩
  · refine ⟨i1, law_read hA hC hR (fun x u1 z => ⟨i1, z⟩) (fun x w h => ⟨fun _ => nx w h, fun z => absurd (rfl) z⟩)⟩
  refine ⟨fun _ => ?_, ?_⟩
  · refine law_back hA hC hR (fun x u1 z => z) (fun x w h => ⟨fun _ => nx w h, fun z => absurd (rfl) z⟩)
  refine ⟨fun _ => ?_, ?_⟩
  · refine law_left hA hC hR (fun x u1 z => z) (fun x w h => ⟨fun _ => nx w h, fun z => absurd (rfl) z⟩)
  refine ⟨fun _ => ?_, ?_⟩
  · refine ⟨i1, i2, law_odds hA hC hR (fun x u1 z => ⟨i1, i2, z⟩) (fun x w h => ⟨fun _ => nx w h, fun z => absurd (lg_same x) z⟩)⟩
  refine ⟨fun _ => ?_, ?_⟩
  · refine ⟨i1, i2, law_trouble hA hC hR (fun x u1 z => ⟨i1, i2, z⟩) (fun x w h => ⟨fun _ => nx w h, fun z => absurd (lg_same x) z⟩)⟩
  refine ⟨fun _ => ?_, ?_⟩
  · refine ⟨i1, i2, law_state hA hC hR (fun x u1 z => ⟨i1, i2, z⟩) (fun x w h => ⟨fun _ => nx w h, fun z => absurd (rfl) z⟩)⟩
  refine ⟨fun _ => ?_, ?_⟩
  · refine ⟨i1, i2, law_sign hA hC hR (fun x u1 z => ⟨i1, i2, z⟩) (fun x w h => ⟨fun _ => nx w h, fun z => absurd (rfl) z⟩)⟩
  refine ⟨fun _ => ?_, ?_⟩
  · refine ⟨i1, i2, i3, law_chance hA hC hR (fun x u1 z => ⟨i1, i2, i3, z⟩) (fun x w h => ⟨fun _ => nx w h, fun z => absurd (lg_same x) z⟩)⟩
  refine ⟨fun _ => ?_, ?_⟩
  · refine ⟨i1, law_parts hA hC hR (fun x u1 z => ⟨i1, z⟩) (fun x w h => ⟨fun _ => nx w h, fun z => absurd (rfl) z⟩)⟩
  refine ⟨fun _ => ?_, ?_⟩
  · refine ⟨i1, i2, law_sure hA hC hR (fun x u1 z => ⟨i1, i2, z⟩) (fun x w h => ⟨fun _ => nx w h, fun z => absurd (lg_same x) z⟩)⟩
  refine ⟨fun _ => ?_, ?_⟩
  · refine ⟨i1, i2, law_best hA hC hR (fun x u1 z => ⟨i1, i2, z⟩) (fun x w h => ⟨fun _ => nx w h, fun z => absurd (lg_same x) z⟩)⟩
  refine ⟨fun _ => ?_, ?_⟩
  · refine ⟨i1, i2, law_habit hA hC hR (fun x u1 z => ⟨i1, i2, z⟩) (fun x w h => ⟨fun _ => nx w h, fun z => absurd (lg_same x) z⟩)⟩
  refine ⟨fun _ => ?_, ?_⟩
  · refine ⟨i1, law_has hA hC hR (fun x u1 z => ⟨i1, z⟩) (fun x w h => ⟨fun _ => nx w h, fun z => absurd (rfl) z⟩)⟩
  refine ⟨fun _ => ?_, ?_⟩
  · refine ⟨i1, law_work hA hC hR (fun x u1 z => ⟨i1, z⟩) (fun x w h => ⟨fun _ => nx w h, fun z => absurd (lg_same x) z⟩)⟩
  refine ⟨fun _ => ?_, ?_⟩
  · refine ⟨i1, i2, law_drowned hA hC hR (fun x u1 z => ⟨i1, i2, z⟩) (fun x w h => ⟨fun _ => nx w h, fun z => absurd (rfl) z⟩)⟩
  refine ⟨fun _ => ?_, ?_⟩
  · refine ⟨i1, i2, i3, law_morning hA hC hR (fun x u1 z => ⟨i1, i2, i3, z⟩) (fun x w h => ⟨fun _ => nx w h, fun z => absurd (rfl) z⟩)⟩
  refine ⟨fun _ => ?_, ?_⟩
  · refine ⟨i1, i2, i3, i4, i5, law_says hA hC hR (fun x u1 z => ⟨i1, i2, i3, i4, i5, z⟩) (fun x w h => ⟨fun _ => nx w h, fun z => absurd (rfl) z⟩)⟩
  refine ⟨fun _ => ?_, ?_⟩
  · refine ⟨i1, i2, i3, law_misses hA hC hR (fun x u1 z => ⟨i1, i2, i3, z⟩) (fun x w h => ⟨fun _ => nx w h, fun z => absurd (rfl) z⟩)⟩
  refine ⟨fun _ => ?_, ?_⟩
  · refine ⟨i1, law_fits hA hC hR (fun x u1 z => ⟨i1, z⟩) (fun x w h => ⟨fun _ => nx w h, fun z => absurd (rfl) z⟩)⟩
  refine ⟨fun _ => ?_, ?_⟩
  · refine ⟨i1, i2, i3, law_sheet hA hC hR (fun x u1 z => ⟨i1, i2, i3, z⟩) (fun x w h => ⟨fun _ => nx w h, fun z => absurd (rfl) z⟩)⟩
  refine ⟨fun _ => ?_, ?_⟩
  · refine ⟨i1, law_lose hA hC hR (fun x u1 z => ⟨i1, z⟩) (fun x w h => ⟨fun _ => nx w h, fun z => absurd (rfl) z⟩)⟩
  refine ⟨fun _ => ?_, ?_⟩
  · refine ⟨i1, i2, i3, i4, law_put hA hC hR (fun x u1 z => ⟨i1, i2, i3, i4, z⟩) (fun x w h => ⟨fun _ => nx w h, fun z => absurd (rfl) z⟩)⟩
  refine ⟨fun _ => ?_, ?_⟩
  · refine ⟨i1, i2, i3, law_get hA hC hR (fun x u1 z => ⟨i1, i2, i3, z⟩) (fun x w h => ⟨fun _ => nx w h, fun z => absurd (rfl) z⟩)⟩
  refine ⟨fun _ => ?_, ?_⟩
  · refine ⟨i1, i2, i3, i4, i5, law_copy hA hC hR (fun x u1 z => ⟨i1, i2, i3, i4, i5, z⟩) (fun x w h => ⟨fun _ => nx w h, fun z => absurd (rfl) z⟩)⟩
  refine ⟨fun _ => ?_, ?_⟩
  · refine ⟨i1, i2, law_write hA hC hR (fun x u1 z => ⟨i1, i2, z⟩) (fun x w h => ⟨fun _ => nx w h, fun z => absurd (rfl) z⟩)⟩
  refine ⟨fun _ => ?_, ?_⟩
  · refine ⟨i1, law_count hA hC hR (fun x u1 z => ⟨i1, z⟩) (fun x w h => ⟨fun _ => nx w h, fun z => absurd (rfl) z⟩)⟩
  refine ⟨fun _ => ?_, ?_⟩
  · refine law_digest hA hC hR (fun x u1 z => z) (fun x w h => ⟨fun _ => nx w h, fun z => absurd (lg_same x) z⟩)
  exact fun _ => nx v ⟨A, hA, hC, hR⟩
