/-! the best of all acts -/
theorem lg_le {a b : Nat} (ha : a < 2 ^ 62) (hb : b < 2 ^ 62) : lg_cmp (lN a) (lN b) ≤ 0 ↔ a ≤ b := by
  unfold lg_cmp
  have e1 : lN a > lN b ↔ b < a := pk_lLT (by omega) (by omega)
  by_cases c : b < a
  · rw [if_pos (e1.mpr c)]
    refine ⟨fun z => absurd z (by decide), fun z => by omega⟩
  · rw [if_neg (fun q => c (e1.mp q))]
    refine ⟨fun _ => by omega, fun _ => ?_⟩
    split
    · decide
    · decide
theorem lg_e0 {a : Nat} (ha : a < 2 ^ 62) : lg_cmp (lN a) 0 = 0 ↔ a = 0 := by
  unfold lg_cmp
  have e1 : lN a > 0 ↔ 0 < a := pk_lLT (a := 0) (b := a) (by decide) (by omega)
  have e2 : lN a < 0 ↔ a < 0 := pk_lLT (a := a) (b := 0) (by omega) (by decide)
  by_cases c : 0 < a
  · rw [if_pos (e1.mpr c)]
    refine ⟨fun z => absurd z (by decide), fun z => by omega⟩
  · obtain rfl : a = 0 := by omega
    exact ⟨fun _ => rfl, fun _ => by decide⟩
def gS (mv : Nat → Int32) (S : Nat → Nat → Int32) (g : Nat → Bool) (a : Int32) (x : Nat) : Nat → Bool := fun s => g s && decide (dz_s mv (S s) a = nI x)
def mxs (f : Nat → Nat) : Nat → Nat
  | 0 => 0
  | k + 1 => if mxs f k < f k then f k else mxs f k
def ams (f : Nat → Nat) : Nat → Nat
  | 0 => 0
  | k + 1 => if mxs f k < f k then k else ams f k
def vk (mv : Nat → Int32) (w : Nat → Nat) : Nat → (Nat → Bool) → (Nat → Nat → Int32) → Nat
  | 0, _, _ => 0
  | n + 1, g, S => mxs (fun a => gsm (gS mv S g (nI a) 2) w 32 + fb_sm (fun x => if x = 2 then 0 else vk mv w n (gS mv S g (nI a) x) (fun s => dz_n mv (S s) (nI a))) 7) 10
def ak (mv : Nat → Int32) (w : Nat → Nat) (n : Nat) (g : Nat → Bool) (S : Nat → Nat → Int32) (a x : Nat) : Nat := if x = 2 then 0 else vk mv w n (gS mv S g (nI a) x) (fun s => dz_n mv (S s) (nI a))
def av (mv : Nat → Int32) (w : Nat → Nat) (n : Nat) (g : Nat → Bool) (S : Nat → Nat → Int32) (a : Nat) : Nat := gsm (gS mv S g (nI a) 2) w 32 + fb_sm (ak mv w n g S a) 7
theorem vk_s (mv : Nat → Int32) (w : Nat → Nat) (n : Nat) (g : Nat → Bool) (S : Nat → Nat → Int32) : vk mv w (n + 1) g S = mxs (av mv w n g S) 10 := rfl
theorem mxs_le {f : Nat → Nat} {c : Nat} : ∀ {k : Nat}, (∀ a, a < k → f a ≤ c) → mxs f k ≤ c
  | 0, _ => by unfold mxs; omega
  | k + 1, h => by
    unfold mxs
    have h1 := mxs_le (f := f) (c := c) (k := k) (fun a ha => h a (by omega))
    have h2 := h k (by omega)
    split <;> omega
theorem mxs_ge {f : Nat → Nat} {a : Nat} : ∀ {k : Nat}, a < k → f a ≤ mxs f k
  | 0, h => absurd h (by omega)
  | k + 1, h => by
    unfold mxs
    by_cases e : a = k
    · subst e
      split <;> omega
    · have := mxs_ge (f := f) (a := a) (k := k) (by omega)
      split <;> omega
theorem mxs_st {f : Nat → Nat} {m : Nat} : ∀ j, (∀ a, m ≤ a → a < m + j → f a ≤ mxs f m) → mxs f (m + j) = mxs f m ∧ ams f (m + j) = ams f m
  | 0, _ => ⟨rfl, rfl⟩
  | j + 1, h => by
    obtain ⟨h1, h2⟩ := mxs_st (f := f) (m := m) j (fun a ha hb => h a ha (by omega))
    have h3 := h (m + j) (by omega) (by omega)
    rw [← Nat.add_assoc]
    have e1 : mxs f (m + j + 1) = if mxs f (m + j) < f (m + j) then f (m + j) else mxs f (m + j) := rfl
    have e2 : ams f (m + j + 1) = if mxs f (m + j) < f (m + j) then m + j else ams f (m + j) := rfl
    rw [e1, e2, h1, h2, if_neg (by omega), if_neg (by omega)]
    exact ⟨rfl, rfl⟩
theorem fb_sm7 (f : Nat → Nat) : fb_sm f 7 = f 0 + f 1 + f 2 + f 3 + f 4 + f 5 + f 6 := by
  simp only [fb_sm]
  omega
theorem gS_one (sg : Int32) (n : Nat) : (if sg = nI 2 then n else 0) + ((if sg = nI 0 then n else 0) + (if sg = nI 1 then n else 0) + 0 + (if sg = nI 3 then n else 0) + (if sg = nI 4 then n else 0) + (if sg = nI 5 then n else 0) + (if sg = nI 6 then n else 0)) ≤ n := by
  have hne : ∀ a b : Nat, a < 7 → b < 7 → a ≠ b → nI a ≠ nI b := fun a b ha hb h e => h ((nI_eq (by omega) (by omega)).mp e)
  by_cases h0 : sg = nI 0
  · subst h0
    rw [if_pos rfl, if_neg (hne 0 1 (by decide) (by decide) (by decide)), if_neg (hne 0 2 (by decide) (by decide) (by decide)), if_neg (hne 0 3 (by decide) (by decide) (by decide)), if_neg (hne 0 4 (by decide) (by decide) (by decide)), if_neg (hne 0 5 (by decide) (by decide) (by decide)), if_neg (hne 0 6 (by decide) (by decide) (by decide))]
    omega
  rw [if_neg h0]
  by_cases h0 : sg = nI 1
  · subst h0
    rw [if_pos rfl, if_neg (hne 1 2 (by decide) (by decide) (by decide)), if_neg (hne 1 3 (by decide) (by decide) (by decide)), if_neg (hne 1 4 (by decide) (by decide) (by decide)), if_neg (hne 1 5 (by decide) (by decide) (by decide)), if_neg (hne 1 6 (by decide) (by decide) (by decide))]
    omega
  rw [if_neg h0]
  by_cases h0 : sg = nI 2
  · subst h0
    rw [if_pos rfl, if_neg (hne 2 3 (by decide) (by decide) (by decide)), if_neg (hne 2 4 (by decide) (by decide) (by decide)), if_neg (hne 2 5 (by decide) (by decide) (by decide)), if_neg (hne 2 6 (by decide) (by decide) (by decide))]
    omega
  rw [if_neg h0]
  by_cases h0 : sg = nI 3
  · subst h0
    rw [if_pos rfl, if_neg (hne 3 4 (by decide) (by decide) (by decide)), if_neg (hne 3 5 (by decide) (by decide) (by decide)), if_neg (hne 3 6 (by decide) (by decide) (by decide))]
    omega
  rw [if_neg h0]
  by_cases h0 : sg = nI 4
  · subst h0
    rw [if_pos rfl, if_neg (hne 4 5 (by decide) (by decide) (by decide)), if_neg (hne 4 6 (by decide) (by decide) (by decide))]
    omega
  rw [if_neg h0]
  by_cases h0 : sg = nI 5
  · subst h0
    rw [if_pos rfl, if_neg (hne 5 6 (by decide) (by decide) (by decide))]
    omega
  rw [if_neg h0]
  split <;> omega
theorem gS_sum (mv : Nat → Int32) (w : Nat → Nat) (g : Nat → Bool) (S : Nat → Nat → Int32) (a : Int32) : ∀ m, gsm (gS mv S g a 2) w m + fb_sm (fun x => if x = 2 then 0 else gsm (gS mv S g a x) w m) 7 ≤ gsm g w m
  | 0 => by simp [fb_sm7, gsm, fb_sm]
  | m + 1 => by
    have ih := gS_sum mv w g S a m
    rw [fb_sm7] at ih ⊢
    simp only [gsm_succ, show ¬ (0 : Nat) = 2 by decide, show ¬ (1 : Nat) = 2 by decide, show ¬ (3 : Nat) = 2 by decide, show ¬ (4 : Nat) = 2 by decide, show ¬ (5 : Nat) = 2 by decide, show ¬ (6 : Nat) = 2 by decide, if_true, if_false] at ih ⊢
    cases hg : g m
    · have e : ∀ x, gS mv S g a x m = false := fun x => by unfold gS; rw [hg]; rfl
      simp only [e, Bool.false_eq_true, if_false]
      omega
    · have e : ∀ x, gS mv S g a x m = decide (dz_s mv (S m) a = nI x) := fun x => by unfold gS; rw [hg]; rfl
      have := gS_one (dz_s mv (S m) a) (w m)
      simp only [e, decide_eq_true_eq, if_true]
      omega
theorem vk_le (mv : Nat → Int32) (w : Nat → Nat) : ∀ n g S, vk mv w n g S ≤ gsm g w 32
  | 0, g, S => Nat.zero_le _
  | n + 1, g, S => by
    rw [vk_s]
    refine mxs_le fun a _ => ?_
    refine Nat.le_trans ?_ (gS_sum mv w g S (nI a) 32)
    refine Nat.add_le_add_left (fb_sm_le fun x _ => ?_) _
    unfold ak
    split
    · exact Nat.le_refl _
    · exact vk_le mv w n _ _
theorem av_le (mv : Nat → Int32) (w : Nat → Nat) (n : Nat) (g : Nat → Bool) (S : Nat → Nat → Int32) (a : Nat) : av mv w n g S a ≤ gsm g w 32 := by
  refine Nat.le_trans ?_ (gS_sum mv w g S (nI a) 32)
  refine Nat.add_le_add_left (fb_sm_le fun x _ => ?_) _
  unfold ak
  split
  · exact Nat.le_refl _
  · exact vk_le mv w n _ _
theorem av_part (mv : Nat → Int32) (w : Nat → Nat) (n : Nat) (g : Nat → Bool) (S : Nat → Nat → Int32) (a : Nat) {x : Nat} (hx : x ≤ 7) : gsm (gS mv S g (nI a) 2) w 32 + fb_sm (ak mv w n g S a) x ≤ av mv w n g S a := by
  have := fb_sm_mono (ak mv w n g S a) x (7 - x)
  rw [show x + (7 - x) = 7 by omega] at this
  unfold av
  omega
theorem gsm_emp {g : Nat → Bool} {w : Nat → Nat} : ∀ {m : Nat}, (∀ s, s < m → g s = false) → gsm g w m = 0
  | 0, _ => rfl
  | m + 1, h => by
    rw [gsm_succ, gsm_emp (fun s hs => h s (by omega)), h m (by omega)]
    rfl
theorem vk_emp {mv : Nat → Int32} {w : Nat → Nat} {n : Nat} {g : Nat → Bool} {S : Nat → Nat → Int32} (h : ∀ s, s < 32 → g s = false) : vk mv w n g S = 0 := by
  have := vk_le mv w n g S
  rw [gsm_emp h] at this
  omega
theorem av_0 (mv : Nat → Int32) (w : Nat → Nat) (g : Nat → Bool) (S : Nat → Nat → Int32) (a : Nat) : av mv w 0 g S a = gsm (gS mv S g (nI a) 2) w 32 := by
  unfold av
  rw [fb_sm7]
  simp [ak, vk]
/-- no act but a turn makes it run -/
theorem dz_s_td {mv st : Nat → Int32} {a : Int32} (h : 4 ≤ a) : dz_s mv st a ≠ 2 := by
  unfold dz_s
  rw [if_pos h]
  split
  · unfold dz_tds
    split
    · split <;> decide
    · decide
  · decide
theorem av_td {mv : Nat → Int32} {w : Nat → Nat} {g : Nat → Bool} {S : Nat → Nat → Int32} {a : Nat} (h : 4 ≤ a) (h2 : a < 10) : av mv w 0 g S a = 0 := by
  rw [av_0]
  refine gsm_emp fun s _ => ?_
  unfold gS
  have h3 : dz_s mv (S s) (nI a) ≠ nI 2 := dz_s_td (by
    show nI 4 ≤ nI a
    exact (nI_leI (by decide) (by omega)).mpr h)
  simp [h3]
