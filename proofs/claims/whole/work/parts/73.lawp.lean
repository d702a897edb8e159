/-! the law: every call -/
theorem r_left2 {A u : gg_M} {Q : Int32 → gg_M → Prop} (hA : WF A) (h : RI A u) (hQ : ∀ v, Fr PR u v → RI A v → Q (q_left A) v) : w_X11_left u Q := by
  unfold w_X11_left
  exact r_left hA h hQ
theorem r_see {A u : gg_M} {a b : Int32} {Q : Int32 → gg_M → Prop} (hA : WF A) (h : RI A u) (hQ : ∀ v, Fr PR u v → RI (n_see A a b) v → Q (m_see A a b) v) : w_X11_see a b u Q := by
  unfold w_X11_see
  exact r_more hA h hQ
theorem lg_same (x : Int64) : lg_cmp x x = 0 := by
  unfold lg_cmp
  rw [if_neg Int64.lt_irrefl, if_pos rfl]
theorem law_b {N j : Nat} (hN : N ≤ 3072) (hj : j ≤ 3078) (h : ¬ (Int32.ofNat N - 6) < nI j) : j + 6 ≤ N := by
  refine Nat.le_of_not_lt fun z => h ?_
  by_cases h6 : 6 ≤ N
  · have e : Int32.ofNat N - 6 = nI (N - 6) := by
      have e1 : Int32.ofNat N = nI (N - 6) + nI 6 := by rw [nI_add, Nat.sub_add_cancel h6]; rfl
      rw [e1]
      exact Int32.add_sub_cancel _ _
    rw [e]
    exact nI_lt (by omega) (by omega)
  · have h0 : Int32.ofNat N - 6 < 0 := by
      have : N = 0 ∨ N = 1 ∨ N = 2 ∨ N = 3 ∨ N = 4 ∨ N = 5 := by omega
      rcases this with rfl | rfl | rfl | rfl | rfl | rfl <;> decide
    exact Int32.lt_of_lt_of_le h0 (nI_pos' (by omega))
def law_I (v : gg_M) : Prop := ∃ A, WF A ∧ CI A v ∧ RI A v
theorem law_type {A u : gg_M} {a0 a1 : Int32} {T : Int32 → gg_M → Prop} {S : Int32 → Int32 → gg_M → Prop} (hA : WF A) (hC : CI A u) (hR : RI A u) (hT : ∀ x u1, w_X11_type a0 a1 u1 (S x) → T x u1) (hS : ∀ x w, law_I w → S x x w) : w_X10_type a0 a1 u T := by
  refine c_type hA hC fun v hF hC1 => hT _ _ ?_
  refine r_type hA (hR.rf hF) fun w hF2 hR2 => ?_
  exact hS _ _ ⟨_, w_type hA, hC1.rf hF2, hR2⟩
theorem law_wipe {A u : gg_M} {a0 : Int32} {T : Int32 → gg_M → Prop} {S : Int32 → Int32 → gg_M → Prop} (hA : WF A) (hC : CI A u) (hR : RI A u) (hT : ∀ x u1, w_X11_wipe a0 u1 (S x) → T x u1) (hS : ∀ x w, law_I w → S x x w) : w_X10_wipe a0 u T := by
  refine c_wipe hC fun v hF hC1 => hT _ _ ?_
  refine r_wipe (hR.rf hF) fun w hF2 hR2 => ?_
  exact hS _ _ ⟨_, w_wipe hA, hC1.rf hF2, hR2⟩
theorem law_fault {A u : gg_M} {a0 : Int32} {T : Int32 → gg_M → Prop} {S : Int32 → Int32 → gg_M → Prop} (hA : WF A) (hC : CI A u) (hR : RI A u) (hT : ∀ x u1, w_X11_fault a0 u1 (S x) → T x u1) (hS : ∀ x w, law_I w → S x x w) : w_X10_fault a0 u T := by
  refine c_fault hC fun v hF hC1 => hT _ _ ?_
  refine r_fault hA (hR.rf hF) fun w hF2 hR2 => ?_
  exact hS _ _ ⟨_, hA, hC1.rf hF2, hR2⟩
theorem law_motor {A u : gg_M} {a0 : Int32} {T : Int32 → gg_M → Prop} {S : Int32 → Int32 → gg_M → Prop} (hA : WF A) (hC : CI A u) (hR : RI A u) (hT : ∀ x u1, w_X11_motor a0 u1 (S x) → T x u1) (hS : ∀ x w, law_I w → S x x w) : w_X10_motor a0 u T := by
  refine c_motor hC fun v hF hC1 => hT _ _ ?_
  refine r_motor hA (hR.rf hF) fun w hF2 hR2 => ?_
  exact hS _ _ ⟨_, hA, hC1.rf hF2, hR2⟩
theorem law_ahead {A u : gg_M} {a0 a1 : Int32} {T : Int32 → gg_M → Prop} {S : Int32 → Int32 → gg_M → Prop} (hA : WF A) (hC : CI A u) (hR : RI A u) (hT : ∀ x u1, w_X11_ahead a0 a1 u1 (S x) → T x u1) (hS : ∀ x w, law_I w → S x x w) : w_X10_ahead a0 a1 u T := by
  refine c_ahead hC fun v hF hC1 => hT _ _ ?_
  refine r_ahead (hR.rf hF) fun w hF2 hR2 => ?_
  exact hS _ _ ⟨_, w_ahead hA, hC1.rf hF2, hR2⟩
theorem law_see {A u : gg_M} {a0 a1 : Int32} {T : Int32 → gg_M → Prop} {S : Int32 → Int32 → gg_M → Prop} (hA : WF A) (hC : CI A u) (hR : RI A u) (hT : ∀ x u1, w_X11_see a0 a1 u1 (S x) → T x u1) (hS : ∀ x w, law_I w → S x x w) : w_X10_see a0 a1 u T := by
  refine c_see hA hC fun v hF hC1 => hT _ _ ?_
  refine r_see hA (hR.rf hF) fun w hF2 hR2 => ?_
  exact hS _ _ ⟨_, w_see hA, hC1.rf hF2, hR2⟩
theorem law_read {A u : gg_M} {a0 : Int32} {T : Int32 → gg_M → Prop} {S : Int32 → Int32 → gg_M → Prop} (hA : WF A) (hC : CI A u) (hR : RI A u) (hT : ∀ x u1, w_X11_read a0 u1 (S x) → T x u1) (hS : ∀ x w, law_I w → S x x w) : w_X10_read a0 u T := by
  refine c_read hA hC fun v hF hC1 => hT _ _ ?_
  refine r_read hA (hR.rf hF) fun w hF2 hR2 => ?_
  exact hS _ _ ⟨_, w_read hA, hC1.rf hF2, hR2⟩
theorem law_back {A u : gg_M} {T : Int32 → gg_M → Prop} {S : Int32 → Int32 → gg_M → Prop} (hA : WF A) (hC : CI A u) (hR : RI A u) (hT : ∀ x u1, w_X11_back u1 (S x) → T x u1) (hS : ∀ x w, law_I w → S x x w) : w_X10_back u T := by
  refine c_back hA hC fun v hF hC1 => hT _ _ ?_
  refine r_back hA (hR.rf hF) fun w hF2 hR2 => ?_
  exact hS _ _ ⟨_, w_back hA, hC1.rf hF2, hR2⟩
theorem law_left {A u : gg_M} {T : Int32 → gg_M → Prop} {S : Int32 → Int32 → gg_M → Prop} (hA : WF A) (hC : CI A u) (hR : RI A u) (hT : ∀ x u1, w_X11_left u1 (S x) → T x u1) (hS : ∀ x w, law_I w → S x x w) : w_X10_left u T := by
  refine c_left hA hC fun v hF hC1 => hT _ _ ?_
  refine r_left2 hA (hR.rf hF) fun w hF2 hR2 => ?_
  exact hS _ _ ⟨_, hA, hC1.rf hF2, hR2⟩
theorem law_odds {A u : gg_M} {a0 a1 : Int32} {T : Int64 → gg_M → Prop} {S : Int64 → Int64 → gg_M → Prop} (hA : WF A) (hC : CI A u) (hR : RI A u) (hT : ∀ x u1, w_X11_odds a0 a1 u1 (S x) → T x u1) (hS : ∀ x w, law_I w → S x x w) : w_X10_odds a0 a1 u T := by
  refine c_odds hA hC fun v hF hC1 => hT _ _ ?_
  refine r_odds hA (hR.rf hF) fun w hF2 hR2 => ?_
  exact hS _ _ ⟨_, hA, hC1.rf hF2, hR2⟩
theorem law_trouble {A u : gg_M} {a0 a1 : Int32} {T : Int64 → gg_M → Prop} {S : Int64 → Int64 → gg_M → Prop} (hA : WF A) (hC : CI A u) (hR : RI A u) (hT : ∀ x u1, w_X11_trouble a0 a1 u1 (S x) → T x u1) (hS : ∀ x w, law_I w → S x x w) : w_X10_trouble a0 a1 u T := by
  refine c_trouble hA hC fun v hF hC1 => hT _ _ ?_
  refine r_trouble hA (hR.rf hF) fun w hF2 hR2 => ?_
  exact hS _ _ ⟨_, hA, hC1.rf hF2, hR2⟩
theorem law_state {A u : gg_M} {a0 a1 : Int32} {T : Int32 → gg_M → Prop} {S : Int32 → Int32 → gg_M → Prop} (hA : WF A) (hC : CI A u) (hR : RI A u) (hT : ∀ x u1, w_X11_state a0 a1 u1 (S x) → T x u1) (hS : ∀ x w, law_I w → S x x w) : w_X10_state a0 a1 u T := by
  refine c_state hA hC fun v hF hC1 => hT _ _ ?_
  refine r_state hA (hR.rf hF) fun w hF2 hR2 => ?_
  exact hS _ _ ⟨_, hA, hC1.rf hF2, hR2⟩
theorem law_sign {A u : gg_M} {a0 a1 : Int32} {T : Int32 → gg_M → Prop} {S : Int32 → Int32 → gg_M → Prop} (hA : WF A) (hC : CI A u) (hR : RI A u) (hT : ∀ x u1, w_X11_sign a0 a1 u1 (S x) → T x u1) (hS : ∀ x w, law_I w → S x x w) : w_X10_sign a0 a1 u T := by
  refine c_sign hA hC fun v hF hC1 => hT _ _ ?_
  refine r_sign hA (hR.rf hF) fun w hF2 hR2 => ?_
  exact hS _ _ ⟨_, hA, hC1.rf hF2, hR2⟩
theorem law_chance {A u : gg_M} {a0 a1 a2 : Int32} {T : Int64 → gg_M → Prop} {S : Int64 → Int64 → gg_M → Prop} (hA : WF A) (hC : CI A u) (hR : RI A u) (hT : ∀ x u1, w_X11_chance a0 a1 a2 u1 (S x) → T x u1) (hS : ∀ x w, law_I w → S x x w) : w_X10_chance a0 a1 a2 u T := by
  refine c_chance hA hC fun v hF hC1 => hT _ _ ?_
  refine r_chance hA (hR.rf hF) fun w hF2 hR2 => ?_
  exact hS _ _ ⟨_, hA, hC1.rf hF2, hR2⟩
theorem law_parts {A u : gg_M} {a0 : Int32} {T : Int32 → gg_M → Prop} {S : Int32 → Int32 → gg_M → Prop} (hA : WF A) (hC : CI A u) (hR : RI A u) (hT : ∀ x u1, w_X11_parts a0 u1 (S x) → T x u1) (hS : ∀ x w, law_I w → S x x w) : w_X10_parts a0 u T := by
  refine c_parts hA hC fun v hF hC1 => hT _ _ ?_
  refine r_parts hA (hR.rf hF) fun w hF2 hR2 => ?_
  exact hS _ _ ⟨_, hA, hC1.rf hF2, hR2⟩
theorem law_sure {A u : gg_M} {a0 a1 : Int32} {T : Int64 → gg_M → Prop} {S : Int64 → Int64 → gg_M → Prop} (hA : WF A) (hC : CI A u) (hR : RI A u) (hT : ∀ x u1, w_X11_sure a0 a1 u1 (S x) → T x u1) (hS : ∀ x w, law_I w → S x x w) : w_X10_sure a0 a1 u T := by
  refine c_sure hA hC fun v hF hC1 => hT _ _ ?_
  refine r_sure hA (hR.rf hF) fun w hF2 hR2 => ?_
  exact hS _ _ ⟨_, hA, hC1.rf hF2, hR2⟩
theorem law_best {A u : gg_M} {a0 a1 : Int32} {T : Int64 → gg_M → Prop} {S : Int64 → Int64 → gg_M → Prop} (hA : WF A) (hC : CI A u) (hR : RI A u) (hT : ∀ x u1, w_X11_best a0 a1 u1 (S x) → T x u1) (hS : ∀ x w, law_I w → S x x w) : w_X10_best a0 a1 u T := by
  refine c_best hA hC fun v hF hC1 => hT _ _ ?_
  refine r_best hA (hR.rf hF) fun w hF2 hR2 => ?_
  exact hS _ _ ⟨_, hA, hC1.rf hF2, hR2⟩
theorem law_habit {A u : gg_M} {a0 a1 : Int32} {T : Int64 → gg_M → Prop} {S : Int64 → Int64 → gg_M → Prop} (hA : WF A) (hC : CI A u) (hR : RI A u) (hT : ∀ x u1, w_X11_habit a0 a1 u1 (S x) → T x u1) (hS : ∀ x w, law_I w → S x x w) : w_X10_habit a0 a1 u T := by
  refine c_habit hA hC fun v hF hC1 => hT _ _ ?_
  refine r_habit hA (hR.rf hF) fun w hF2 hR2 => ?_
  exact hS _ _ ⟨_, hA, hC1.rf hF2, hR2⟩
theorem law_has {A u : gg_M} {a0 : Int32} {T : Int32 → gg_M → Prop} {S : Int32 → Int32 → gg_M → Prop} (hA : WF A) (hC : CI A u) (hR : RI A u) (hT : ∀ x u1, w_X11_has a0 u1 (S x) → T x u1) (hS : ∀ x w, law_I w → S x x w) : w_X10_has a0 u T := by
  refine c_has hA hC fun v hF hC1 => hT _ _ ?_
  refine r_has hA (hR.rf hF) fun w hF2 hR2 => ?_
  exact hS _ _ ⟨_, hA, hC1.rf hF2, hR2⟩
theorem law_work {A u : gg_M} {a0 : Int32} {T : Int64 → gg_M → Prop} {S : Int64 → Int64 → gg_M → Prop} (hA : WF A) (hC : CI A u) (hR : RI A u) (hT : ∀ x u1, w_X11_work a0 u1 (S x) → T x u1) (hS : ∀ x w, law_I w → S x x w) : w_X10_work a0 u T := by
  refine c_work hA hC fun v hF hC1 => hT _ _ ?_
  refine r_work hA (hR.rf hF) fun w hF2 hR2 => ?_
  exact hS _ _ ⟨_, hA, hC1.rf hF2, hR2⟩
theorem law_drowned {A u : gg_M} {a0 a1 : Int32} {T : Int32 → gg_M → Prop} {S : Int32 → Int32 → gg_M → Prop} (hA : WF A) (hC : CI A u) (hR : RI A u) (hT : ∀ x u1, w_X11_drowned a0 a1 u1 (S x) → T x u1) (hS : ∀ x w, law_I w → S x x w) : w_X10_drowned a0 a1 u T := by
  refine c_drowned hC fun v hF hC1 => hT _ _ ?_
  refine r_drowned hA (hR.rf hF) fun w hF2 hR2 => ?_
  exact hS _ _ ⟨_, hA, hC1.rf hF2, hR2⟩
theorem law_morning {A u : gg_M} {a0 a1 a2 : Int32} {T : Int32 → gg_M → Prop} {S : Int32 → Int32 → gg_M → Prop} (hA : WF A) (hC : CI A u) (hR : RI A u) (hT : ∀ x u1, w_X11_morning a0 a1 a2 u1 (S x) → T x u1) (hS : ∀ x w, law_I w → S x x w) : w_X10_morning a0 a1 a2 u T := by
  refine c_morning hA hC fun v hF hC1 => hT _ _ ?_
  refine r_morning hA (hR.rf hF) fun w hF2 hR2 => ?_
  exact hS _ _ ⟨_, w_morning hA, hC1.rf hF2, hR2⟩
theorem law_says {A u : gg_M} {a0 a1 a2 a3 a4 : Int32} {T : Int32 → gg_M → Prop} {S : Int32 → Int32 → gg_M → Prop} (hA : WF A) (hC : CI A u) (hR : RI A u) (hT : ∀ x u1, w_X11_says a0 a1 a2 a3 a4 u1 (S x) → T x u1) (hS : ∀ x w, law_I w → S x x w) : w_X10_says a0 a1 a2 a3 a4 u T := by
  refine c_says (hT _ _ ?_)
  refine r_says ?_
  exact hS _ _ ⟨_, hA, hC, hR⟩
theorem law_misses {A u : gg_M} {a0 a1 a2 : Int32} {T : Int32 → gg_M → Prop} {S : Int32 → Int32 → gg_M → Prop} (hA : WF A) (hC : CI A u) (hR : RI A u) (hT : ∀ x u1, w_X11_misses a0 a1 a2 u1 (S x) → T x u1) (hS : ∀ x w, law_I w → S x x w) : w_X10_misses a0 a1 a2 u T := by
  refine c_misses hA hC (hT _ _ ?_)
  refine r_misses hA hR ?_
  exact hS _ _ ⟨_, hA, hC, hR⟩
theorem law_fits {A u : gg_M} {a0 : Int32} {T : Int32 → gg_M → Prop} {S : Int32 → Int32 → gg_M → Prop} (hA : WF A) (hC : CI A u) (hR : RI A u) (hT : ∀ x u1, w_X11_fits a0 u1 (S x) → T x u1) (hS : ∀ x w, law_I w → S x x w) : w_X10_fits a0 u T := by
  refine c_fits hA hC fun v hF hC1 => hT _ _ ?_
  refine r_fits hA (hR.rf hF) ?_
  exact hS _ _ ⟨_, hA, hC1, (hR.rf hF)⟩
theorem law_sheet {A u : gg_M} {a0 a1 a2 : Int32} {T : Int32 → gg_M → Prop} {S : Int32 → Int32 → gg_M → Prop} (hA : WF A) (hC : CI A u) (hR : RI A u) (hT : ∀ x u1, w_X11_sheet a0 a1 a2 u1 (S x) → T x u1) (hS : ∀ x w, law_I w → S x x w) : w_X10_sheet a0 a1 a2 u T := by
  refine c_sheet hA hC fun v hF hC1 => hT _ _ ?_
  refine r_sheet (hR.rf hF) fun w hF2 hR2 => ?_
  exact hS _ _ ⟨_, w_sheet hA, hC1.rf hF2, hR2⟩
theorem law_lose {A u : gg_M} {a0 : Int32} {T : Int32 → gg_M → Prop} {S : Int32 → Int32 → gg_M → Prop} (hA : WF A) (hC : CI A u) (hR : RI A u) (hT : ∀ x u1, w_X11_lose a0 u1 (S x) → T x u1) (hS : ∀ x w, law_I w → S x x w) : w_X10_lose a0 u T := by
  refine c_lose hA hC fun v hF hC1 => hT _ _ ?_
  refine r_lose (hR.rf hF) fun w hF2 hR2 => ?_
  exact hS _ _ ⟨_, w_lose hA, hC1.rf hF2, hR2⟩
theorem law_put {A u : gg_M} {a0 a1 a2 a3 : Int32} {T : Int32 → gg_M → Prop} {S : Int32 → Int32 → gg_M → Prop} (hA : WF A) (hC : CI A u) (hR : RI A u) (hT : ∀ x u1, w_X11_put a0 a1 a2 a3 u1 (S x) → T x u1) (hS : ∀ x w, law_I w → S x x w) : w_X10_put a0 a1 a2 a3 u T := by
  refine c_put hA hC fun v hF hC1 => hT _ _ ?_
  refine r_put hA (hR.rf hF) fun w hF2 hR2 => ?_
  exact hS _ _ ⟨_, w_put hA, hC1.rf hF2, hR2⟩
theorem law_get {A u : gg_M} {a0 a1 a2 : Int32} {T : Int32 → gg_M → Prop} {S : Int32 → Int32 → gg_M → Prop} (hA : WF A) (hC : CI A u) (hR : RI A u) (hT : ∀ x u1, w_X11_get a0 a1 a2 u1 (S x) → T x u1) (hS : ∀ x w, law_I w → S x x w) : w_X10_get a0 a1 a2 u T := by
  refine c_get hA hC fun v hF hC1 => hT _ _ ?_
  refine r_get hA (hR.rf hF) fun w hF2 hR2 => ?_
  exact hS _ _ ⟨_, w_get hA, hC1.rf hF2, hR2⟩
theorem law_copy {A u : gg_M} {a0 a1 a2 a3 a4 : Int32} {T : Int32 → gg_M → Prop} {S : Int32 → Int32 → gg_M → Prop} (hA : WF A) (hC : CI A u) (hR : RI A u) (hT : ∀ x u1, w_X11_copy a0 a1 a2 a3 a4 u1 (S x) → T x u1) (hS : ∀ x w, law_I w → S x x w) : w_X10_copy a0 a1 a2 a3 a4 u T := by
  refine c_copy hA hC fun v hF hC1 => hT _ _ ?_
  refine r_copy hA (hR.rf hF) fun w hF2 hR2 => ?_
  exact hS _ _ ⟨_, w_copy hA, hC1.rf hF2, hR2⟩
theorem law_write {A u : gg_M} {a0 a1 : Int32} {T : Int32 → gg_M → Prop} {S : Int32 → Int32 → gg_M → Prop} (hA : WF A) (hC : CI A u) (hR : RI A u) (hT : ∀ x u1, w_X11_write a0 a1 u1 (S x) → T x u1) (hS : ∀ x w, law_I w → S x x w) : w_X10_write a0 a1 u T := by
  refine c_write hA hC fun v hF hC1 => hT _ _ ?_
  refine r_write hA (hR.rf hF) fun w hF2 hR2 => ?_
  exact hS _ _ ⟨_, w_write hA, hC1.rf hF2, hR2⟩
theorem law_count {A u : gg_M} {a0 : Int32} {T : Int32 → gg_M → Prop} {S : Int32 → Int32 → gg_M → Prop} (hA : WF A) (hC : CI A u) (hR : RI A u) (hT : ∀ x u1, w_X11_count a0 u1 (S x) → T x u1) (hS : ∀ x w, law_I w → S x x w) : w_X10_count a0 u T := by
  refine c_count hA hC fun v hF hC1 => hT _ _ ?_
  refine r_count hA (hR.rf hF) fun w hF2 hR2 => ?_
  exact hS _ _ ⟨_, hA, hC1.rf hF2, hR2⟩
theorem law_digest {A u : gg_M} {T : Int64 → gg_M → Prop} {S : Int64 → Int64 → gg_M → Prop} (hA : WF A) (hC : CI A u) (hR : RI A u) (hT : ∀ x u1, w_X11_digest u1 (S x) → T x u1) (hS : ∀ x w, law_I w → S x x w) : w_X10_digest u T := by
  refine c_digest hA hC fun v hF hC1 => hT _ _ ?_
  refine r_digest hA (hR.rf hF) fun w hF2 hR2 => ?_
  exact hS _ _ ⟨_, hA, hC1.rf hF2, hR2⟩
