/-! loops that count up, frames -/
theorem gl_up {S : Type} {body : S → (S → Prop) → Prop} {s0 : S} (N : Nat) (J : Nat → S → Prop) (n0 : Nat) (hn : n0 ≤ N) (h0 : J n0 s0)
    (hs : ∀ n s, n ≤ N → J n s → ∀ k : S → Prop, (n < N → ∀ s1, J (n + 1) s1 → k s1) → body s k) : gg_loop body s0 := by
  have least : ∀ s, ∃ r, (∃ r1, r1 ≤ N ∧ J (N - r1) s) → (r ≤ N ∧ J (N - r) s) ∧ ∀ j, j < r → ¬ (j ≤ N ∧ J (N - j) s) := fun s => by
    by_cases h : ∃ r1, r1 ≤ N ∧ J (N - r1) s
    · obtain ⟨r, hr⟩ := pk_least (fun r => r ≤ N ∧ J (N - r) s) h
      exact ⟨r, fun _ => hr⟩
    · exact ⟨0, fun q => absurd q h⟩
  refine ⟨fun s => ∃ r, r ≤ N ∧ J (N - r) s, fun s => Classical.choose (least s), ⟨N - n0, by omega, by rw [show N - (N - n0) = n0 by omega]; exact h0⟩, fun s hI => ?_⟩
  have hc := Classical.choose_spec (least s) hI
  show body s (fun s1 => (∃ r, r ≤ N ∧ J (N - r) s1) ∧ Classical.choose (least s1) < Classical.choose (least s))
  generalize Classical.choose (least s) = r at hc
  refine hs (N - r) s (by omega) hc.1.2 _ (fun hlt s1 h1 => ?_)
  have hI1 : ∃ r, r ≤ N ∧ J (N - r) s1 := ⟨r - 1, by omega, by rw [show N - (r - 1) = N - r + 1 by omega]; exact h1⟩
  refine ⟨hI1, ?_⟩
  have hc1 := Classical.choose_spec (least s1) hI1
  generalize Classical.choose (least s1) = r1 at hc1
  refine Nat.lt_of_not_le fun hge => ?_
  exact hc1.2 (r - 1) (by omega) ⟨by omega, by rw [show N - (r - 1) = N - r + 1 by omega]; exact h1⟩
/-- a loop whose measure is a number of its own state -/
theorem gl_me {S : Type} {body : S → (S → Prop) → Prop} {s0 : S} (I : S → Prop) (m : S → Nat) (h0 : I s0) (hs : ∀ s, I s → ∀ k : S → Prop, (∀ s1, I s1 → m s1 < m s → k s1) → body s k) : gg_loop body s0 :=
  ⟨I, m, h0, fun s hI => hs s hI _ (fun s1 h1 h2 => ⟨h1, h2⟩)⟩
/-- the places that may have changed -/
def Fr (P : Nat → Nat → Bool) (u v : gg_M) : Prop := ∀ t j, P t j = false → v.1 t j = u.1 t j ∧ v.2 t j = u.2 t j
theorem Fr.rf {P : Nat → Nat → Bool} {u : gg_M} : Fr P u u := fun _ _ _ => ⟨rfl, rfl⟩
theorem Fr.tr {P : Nat → Nat → Bool} {u v w : gg_M} (h1 : Fr P u v) (h2 : Fr P v w) : Fr P u w := fun t j h => ⟨(h2 t j h).1.trans (h1 t j h).1, (h2 t j h).2.trans (h1 t j h).2⟩
theorem Fr.mono {P P1 : Nat → Nat → Bool} {u v : gg_M} (h1 : Fr P u v) (h : ∀ t j, P1 t j = false → P t j = false) : Fr P1 u v := fun t j q => h1 t j (h t j q)
theorem Fr.wA {P : Nat → Nat → Bool} {u v : gg_M} {t : Nat} {f : Nat → Int32} (h1 : Fr P u v) (h : ∀ j, P t j = true) : Fr P u (gg_wA v t f) := fun a j q => by
  have hn : a ≠ t := fun e => by rw [e, h j] at q; cases q
  rw [gg_wA_n _ _ hn, gm_A2]
  exact h1 a j q
theorem Fr.wI {P : Nat → Nat → Bool} {u v : gg_M} {t k : Nat} {x : Int32} (h1 : Fr P u v) (h : P t k = true) : Fr P u (gg_wI v t k x) := fun a j q => by
  rw [gm_I, gm_A2]
  by_cases e : a = t
  · subst e
    have hn : j ≠ k := fun e => by rw [e, h] at q; cases q
    rw [gg_wA_1, upd_ne _ _ hn]
    exact h1 a j q
  · rw [gg_wA_n _ _ e]
    exact h1 a j q
theorem Fr.wL {P : Nat → Nat → Bool} {u v : gg_M} {t k : Nat} {x : Int64} (h1 : Fr P u v) (h : P t k = true) : Fr P u (gg_wL v t k x) := fun a j q => by
  rw [gm_L, gm_B1]
  by_cases e : a = t
  · subst e
    have hn : j ≠ k := fun e => by rw [e, h] at q; cases q
    rw [gg_wB_1]
    exact ⟨(h1 a j q).1, (pk_uLn hn).trans (h1 a j q).2⟩
  · rw [gg_wB_n _ _ e]
    exact h1 a j q
theorem Fr.i {P : Nat → Nat → Bool} {u v : gg_M} (h : Fr P u v) (t : Nat) (ht : ∀ j, P t j = false) : v.1 t = u.1 t := funext fun j => (h t j (ht j)).1
theorem Fr.l {P : Nat → Nat → Bool} {u v : gg_M} (h : Fr P u v) (t : Nat) (ht : ∀ j, P t j = false) : v.2 t = u.2 t := funext fun j => (h t j (ht j)).2
/-- reading behind a write -/
theorem gi_eq (u : gg_M) (t j : Nat) (x : Int32) : (gg_wI u t j x).1 t j = x := by rw [gm_I, gg_wA_1, upd_self]
theorem gi_ne (u : gg_M) (t j : Nat) (x : Int32) {k : Nat} (h : k ≠ j) : (gg_wI u t j x).1 t k = u.1 t k := by rw [gm_I, gg_wA_1, upd_ne _ _ h]
theorem gi_nt (u : gg_M) (t j : Nat) (x : Int32) {a : Nat} (h : a ≠ t) : (gg_wI u t j x).1 a = u.1 a := gg_wA_n _ _ h
theorem gi_2 (u : gg_M) (t j : Nat) (x : Int32) : (gg_wI u t j x).2 = u.2 := rfl
theorem gl_1 (u : gg_M) (t j : Nat) (x : Int64) : (gg_wL u t j x).1 = u.1 := rfl
theorem gl_eq (u : gg_M) (t j : Nat) (x : Int64) : (gg_wL u t j x).2 t j = x := by rw [gm_L, gg_wB_1, pk_uLs]
theorem gl_ne (u : gg_M) (t j : Nat) (x : Int64) {k : Nat} (h : k ≠ j) : (gg_wL u t j x).2 t k = u.2 t k := by rw [gm_L, gg_wB_1, pk_uLn h]
theorem gl_nt (u : gg_M) (t j : Nat) (x : Int64) {a : Nat} (h : a ≠ t) : (gg_wL u t j x).2 a = u.2 a := gg_wB_n _ _ h
theorem ek8.rf {f : Nat → Int32} : ek8 f f := fun _ _ => rfl
theorem ek8.tr {f g k : Nat → Int32} (h : ek8 f g) (h2 : ek8 g k) : ek8 f k := fun j hj => (h j hj).trans (h2 j hj)
theorem ek8.sy {f g : Nat → Int32} (h : ek8 f g) : ek8 g f := fun j hj => (h j hj).symm
theorem dz_congr {mv f g : Nat → Int32} (h : ek8 f g) (a : Int32) : dz_s mv f a = dz_s mv g a ∧ ek8 (dz_n mv f a) (dz_n mv g a) := by
  have h0 := h 0 (by decide)
  have h1 := h 1 (by decide)
  have h2 := h 2 (by decide)
  have h3 := h 3 (by decide)
  have h4 := h 4 (by decide)
  have h5 := h 5 (by decide)
  have h6 := h 6 (by decide)
  have h7 := h 7 (by decide)
  have hp : ek8 (dz_pay mv f a) (dz_pay mv g a) := by
    refine lt8 ?_ ?_ h2 h3 h4 h5 h6 h7
    · show f 0 - _ = g 0 - _
      rw [h0]
    · show f 1 - _ = g 1 - _
      rw [h1]
  have hcan : dz_can mv f a ↔ dz_can mv g a := by rw [dz_can, dz_can, h0, h1, h7]
  have key : ∀ f g : Nat → Int32, ek8 f g → dz_tds f a = dz_tds g a ∧ dz_ts mv f a = dz_ts mv g a ∧ ek8 (dz_tdn mv f a) (dz_tdn mv g a) ∧ ek8 (dz_tn mv f a) (dz_tn mv g a) := by
    intro f g h
    have h0 := h 0 (by decide)
    have h1 := h 1 (by decide)
    have h2 := h 2 (by decide)
    have h3 := h 3 (by decide)
    have h4 := h 4 (by decide)
    have h5 := h 5 (by decide)
    have h6 := h 6 (by decide)
    have h7 := h 7 (by decide)
    have mk : ∀ b l w v m s t r, ek8 (dz_mk f b l w v m s t r) (dz_mk g b l w v m s t r) := fun b l w v m s t r => lt8 rfl rfl rfl rfl rfl rfl rfl rfl
    have hs : dz_ts mv f a = dz_ts mv g a := by
      unfold dz_ts dz_mix dz_drawn dz_fat dz_push dz_time
      rw [h0, h2, h3, h4, h5, h6]
    refine ⟨by unfold dz_tds; rw [h3], hs, ?_, ?_⟩
    · unfold dz_tdn
      rw [h0, h1, h2, h3, h4, h5, h6, h7]
      repeat' split
      all_goals exact mk _ _ _ _ _ _ _ _
    · unfold dz_tn
      rw [hs]
      have hmx : dz_mix mv f a = dz_mix mv g a := by unfold dz_mix dz_drawn; rw [h2, h4, h5, h6]
      have hwl : dz_wall mv f a = dz_wall mv g a := by unfold dz_wall dz_drawn; rw [h2, h4, h6]
      rw [hmx, hwl, h0, h1, h3, h4, h6, h7]
      split
      all_goals exact mk _ _ _ _ _ _ _ _
  obtain ⟨k1, k2, k3, k4⟩ := key _ _ hp
  unfold dz_s dz_n
  by_cases hc : dz_can mv f a
  · rw [if_pos hc, if_pos hc, if_pos (hcan.mp hc), if_pos (hcan.mp hc), k1, k2]
    refine ⟨rfl, ?_⟩
    split
    · exact k3
    · exact k4
  · rw [if_neg hc, if_neg hc, if_neg (fun q => hc (hcan.mpr q)), if_neg (fun q => hc (hcan.mpr q))]
    exact ⟨rfl, h⟩
theorem dz_O_congr {mv f g : Nat → Int32} (h : ek8 f g) (hO : dz_O mv f) : dz_O mv g := by
  unfold dz_O at hO ⊢
  rwa [h 0 (by decide), h 1 (by decide), h 2 (by decide), h 3 (by decide), h 4 (by decide), h 5 (by decide), h 6 (by decide), h 7 (by decide)] at hO
