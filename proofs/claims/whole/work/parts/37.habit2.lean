theorem adf_lo {f : Nat → Int32} {z : Nat} {x : Int32} : ∀ {k j : Nat}, j < z → adf f z x k j = f j
  | 0, j, h => rfl
  | k + 1, j, h => by
    rw [adf, upd_ne _ _ (by omega)]
    exact adf_lo h
theorem adf_in {f : Nat → Int32} {z : Nat} {x : Int32} : ∀ {k j : Nat}, z ≤ j → j < z + k → adf f z x k j = x
  | 0, j, h, h2 => absurd h2 (by omega)
  | k + 1, j, h, h2 => by
    rw [adf]
    by_cases e : j = z + k
    · rw [e, upd_self]
    · rw [upd_ne _ _ e]
      exact adf_in h (by omega)
theorem hp_b {n : Nat} {b c : Nat → Int32} (h : ∀ j, j < n → b j = c j) : ∀ fu p z f, hp n b fu p z f = hp n c fu p z f
  | 0, p, z, f => rfl
  | fu + 1, p, z, f => by
    rw [hp, hp]
    simp only [tb_b h, hp_b h fu]
theorem hp_f {n : Nat} {b : Nat → Int32} : ∀ fu p z f g, (∀ j, j < z → f j = g j) → (hp n b fu p z f).1 = (hp n b fu p z g).1 ∧ (hp n b fu p z f).2.1 = (hp n b fu p z g).2.1 ∧ ∀ j, j < (hp n b fu p z f).2.1 → (hp n b fu p z f).2.2 j = (hp n b fu p z g).2.2 j
  | 0, p, z, f, g, h => ⟨rfl, rfl, h⟩
  | fu + 1, p, z, f, g, h => by
    rw [hp, hp]
    generalize (if tb n b (p + 1) = 42 then p + 3 else p + 1) = pl
    generalize (if tb n b (p + 1) = 42 then fg (tb n b (p + 2)) else 1).toNatClampNeg = m
    generalize fg (tb n b p) = x
    have had : ∀ j, j < z + m → adf f z x m j = adf g z x m j := fun j hj => by
      rcases Nat.lt_or_ge j z with q | q
      · rw [adf_lo q, adf_lo q, h j q]
      · rw [adf_in q hj, adf_in q hj]
    by_cases c1 : x = -1
    · rw [if_pos c1, if_pos c1]
      exact ⟨rfl, rfl, h⟩
    · rw [if_neg c1, if_neg c1]
      by_cases c2 : tb n b (p + 1) = 42 ∧ ¬ 2 ≤ fg (tb n b (p + 2))
      · rw [if_pos c2, if_pos c2]
        exact ⟨rfl, rfl, h⟩
      · rw [if_neg c2, if_neg c2]
        by_cases c3 : n ≤ pl
        · rw [if_pos c3, if_pos c3]
          exact ⟨rfl, rfl, had⟩
        · rw [if_neg c3, if_neg c3]
          by_cases c4 : ¬ tb n b pl = 44
          · rw [if_pos c4, if_pos c4]
            exact ⟨rfl, rfl, had⟩
          · rw [if_neg c4, if_neg c4]
            exact hp_f fu _ _ _ _ had
theorem hp_le {n : Nat} {b : Nat → Int32} (hl : n ≤ 40) : ∀ fu p z f, p ≤ n → p % 2 = 0 → 4 * z ≤ 9 * p → (∀ j, j < z → 0 ≤ f j ∧ f j ≤ 9) → (hp n b fu p z f).2.1 ≤ 90 ∧ ∀ j, j < (hp n b fu p z f).2.1 → 0 ≤ (hp n b fu p z f).2.2 j ∧ (hp n b fu p z f).2.2 j ≤ 9
  | 0, p, z, f, h1, h2, h3, h => ⟨by show z ≤ 90; omega, h⟩
  | fu + 1, p, z, f, h1, h2, h3, h => by
    rw [hp]
    have hx0 := fg_ge (n := n) (b := b) (k := p)
    have hxb := fg_b (tb n b p)
    have hx2b := fg_ge (n := n) (b := b) (k := p + 2)
    have hx2n := fg_n (x := tb n b (p + 2))
    by_cases c1 : fg (tb n b p) = -1
    · rw [if_pos c1]
      exact ⟨by show z ≤ 90; omega, h⟩
    · rw [if_neg c1]
      have hpn := hx0 c1
      have hx := hxb.resolve_left c1
      clear hx0 hxb
      by_cases c2 : tb n b (p + 1) = 42 ∧ ¬ 2 ≤ fg (tb n b (p + 2))
      · rw [if_pos c2]
        exact ⟨by show z ≤ 90; omega, h⟩
      · rw [if_neg c2]
        have hm : ∃ pl m, (if tb n b (p + 1) = 42 then p + 3 else p + 1) = pl ∧ (if tb n b (p + 1) = 42 then fg (tb n b (p + 2)) else 1).toNatClampNeg = m ∧ z + m ≤ 90 ∧ 4 * (z + m) ≤ 9 * (pl + 1) ∧ pl % 2 = 1 := by
          by_cases c5 : tb n b (p + 1) = 42
          · have c6 : 2 ≤ fg (tb n b (p + 2)) := by
              by_cases q : 2 ≤ fg (tb n b (p + 2))
              · exact q
              · exact absurd ⟨c5, q⟩ c2
            obtain ⟨m, hm9, em, hm2⟩ := hx2n c6
            have hp3 := hx2b (fun q => by rw [q] at c6; exact absurd c6 (by decide))
            clear hx2b hx2n
            exact ⟨p + 3, m, by rw [if_pos c5], by rw [if_pos c5, em]; exact nI_clamp (by omega), by omega, by omega, by omega⟩
          · clear hx2b hx2n
            exact ⟨p + 1, 1, by rw [if_neg c5], by rw [if_neg c5]; exact i1_cl, by omega, by omega, by omega⟩
        obtain ⟨pl, m, e1, e2, l1, l2, l3⟩ := hm
        clear hx2b hx2n
        rw [e1, e2]
        have had : ∀ j, j < z + m → 0 ≤ adf f z (fg (tb n b p)) m j ∧ adf f z (fg (tb n b p)) m j ≤ 9 := fun j hj => by
          rcases Nat.lt_or_ge j z with q | q
          · rw [adf_lo q]
            exact h j q
          · rw [adf_in q hj]
            exact hx
        by_cases c3 : n ≤ pl
        · rw [if_pos c3]
          exact ⟨l1, had⟩
        · rw [if_neg c3]
          by_cases c4 : ¬ tb n b pl = 44
          · rw [if_pos c4]
            exact ⟨l1, had⟩
          · rw [if_neg c4]
            exact hp_le hl fu _ _ _ (by omega) (by omega) (by omega) had
def HR (n : Nat) (b : Nat → Int32) : Int32 × Nat × (Nat → Int32) := if n = 0 then (-1, 0, fun _ => 0) else hp n b 41 0 0 (fun _ => 0)
def HF (n : Nat) (b : Nat → Int32) : Int32 := (HR n b).1
def HN (n : Nat) (b : Nat → Int32) : Nat := if HF n b = -1 then (HR n b).2.1 else 0
def HA (n : Nat) (b : Nat → Int32) : Nat → Int32 := (HR n b).2.2
theorem HR_f {n : Nat} {b f : Nat → Int32} : (if n = 0 then (-1, 0, f) else hp n b 41 0 0 f).1 = HF n b ∧ (if n = 0 then (-1, 0, f) else hp n b 41 0 0 f).2.1 = (HR n b).2.1 ∧ ∀ j, j < (HR n b).2.1 → (if n = 0 then (-1, 0, f) else hp n b 41 0 0 f).2.2 j = HA n b j := by
  unfold HF HA HR
  by_cases c : n = 0
  · rw [if_pos c, if_pos c]
    exact ⟨rfl, rfl, fun j hj => absurd hj (Nat.not_lt_zero j)⟩
  · rw [if_neg c, if_neg c]
    obtain ⟨h1, h2, h3⟩ := hp_f (n := n) (b := b) 41 0 0 f (fun _ => 0) (fun j hj => absurd hj (by omega))
    exact ⟨h1, h2, fun j hj => h3 j (by rw [h2]; exact hj)⟩
theorem HN_le (n : Nat) (b : Nat → Int32) (hl : n ≤ 40) : HN n b ≤ 90 ∧ ∀ j, j < HN n b → 0 ≤ HA n b j ∧ HA n b j ≤ 9 := by
  unfold HN HA HR
  by_cases q : HF n b = -1
  · rw [if_pos q]
    by_cases c : n = 0
    · rw [if_pos c]
      exact ⟨by decide, fun j hj => absurd hj (Nat.not_lt_zero j)⟩
    · rw [if_neg c]
      exact hp_le hl 41 0 0 _ (by omega) (by omega) (by omega) (fun j hj => absurd hj (by omega))
  · rw [if_neg q]
    exact ⟨by decide, fun j hj => absurd hj (Nat.not_lt_zero j)⟩
theorem HR_b {n : Nat} {b c : Nat → Int32} (h : ∀ j, j < n → b j = c j) : HR n b = HR n c := by
  unfold HR
  rw [hp_b h]
theorem HF_b {n : Nat} {b c : Nat → Int32} (h : ∀ j, j < n → b j = c j) : HF n b = HF n c := by unfold HF; rw [HR_b h]
theorem HN_b {n : Nat} {b c : Nat → Int32} (h : ∀ j, j < n → b j = c j) : HN n b = HN n c := by unfold HN; rw [HR_b h, HF_b h]
theorem HA_b {n : Nat} {b c : Nat → Int32} (h : ∀ j, j < n → b j = c j) : HA n b = HA n c := by unfold HA; rw [HR_b h]
theorem hlearn_s {n : Nat} {u : gg_M} {Q : gg_M → Prop} (hn : u.1 3 1 = nI n) (hl : n ≤ 40) (h : ∀ f, (∀ j, j < HN n (u.1 5) → f j = HA n (u.1 5) j) → Q (gg_wI (gcu u 9 8 1 f (HN n (u.1 5))) 8 2 (HF n (u.1 5)))) : w_X5_learn 3 u Q := by
  unfold w_X5_learn w_X5_learn_c27
  rintro _ rfl
  refine hfault_s (n := n) (by rw [gi_nt _ _ _ _ (by decide)]; exact hn) hl (gi_eq _ _ _ _) ?_
  rw [gi_nt _ _ _ _ (show (5 : Nat) ≠ 8 by decide), gi_nt _ _ _ _ (show (9 : Nat) ≠ 8 by decide)]
  obtain ⟨e1, e2, e3⟩ := HR_f (n := n) (b := u.1 5) (f := u.1 9)
  generalize (if n = 0 then (-1, 0, u.1 9) else hp n (u.1 5) 41 0 0 (u.1 9)) = R at e1 e2 e3
  have eu : gcu (gg_wI u 8 1 0) 9 8 1 R.2.2 R.2.1 = gcu u 9 8 1 R.2.2 R.2.1 := by
    unfold gcu
    simp only [gm_I]
    rw [gm_AC _ _ _ (show (8 : Nat) ≠ 9 by decide), gm_AA, gg_wA_1, upd_upd, gg_wA_n _ _ (show (8 : Nat) ≠ 9 by decide)]
  rw [eu]
  rintro _ rfl
  rw [gi_eq, e1]
  refine ⟨fun c => ?_, fun c => ?_⟩
  · have hN : HN n (u.1 5) = R.2.1 := by
      unfold HN
      rw [if_pos c, e2]
    have := h R.2.2 (fun j hj => e3 j (by rw [← e2, ← hN]; exact hj))
    rwa [hN] at this
  · have hN : HN n (u.1 5) = 0 := by
      unfold HN
      rw [if_neg c]
    rintro _ rfl
    have := h R.2.2 (fun j hj => by rw [hN] at hj; exact absurd hj (by omega))
    rw [hN] at this
    have e4 : gg_wI (gg_wI (gcu u 9 8 1 R.2.2 R.2.1) 8 2 (HF n (u.1 5))) 8 1 0 = gg_wI (gcu u 9 8 1 R.2.2 0) 8 2 (HF n (u.1 5)) := by
      unfold gcu
      simp only [gm_I, gm_AA, gg_wA_1]
      congr 1
      funext j
      unfold upd
      repeat' split
      all_goals first | rfl | omega
    rw [e4]
    exact this
theorem habitNow_s {n : Nat} {u : gg_M} {b : Nat → Int32} {Q : Int32 → gg_M → Prop} (hb : b = fun j => u.1 47 (60 * 1 + j)) (hn : u.1 48 1 = nI n) (hl : n ≤ 40) (h : ∀ f, (∀ j, j < HN n b → f j = HA n b j) → Q (HF n b) (gcu u 50 1 4 f (HN n b))) : w_X11_habitNow u Q := by
  refine hnow_s hb hn hl ?_
  obtain ⟨e1, e2, e3⟩ := HR_f (n := n) (b := b) (f := u.1 50)
  generalize (if n = 0 then (-1, 0, u.1 50) else hp n b 41 0 0 (u.1 50)) = R at e1 e2 e3
  rw [e1]
  have hN : HN n b = if HF n b = -1 then R.2.1 else 0 := by
    unfold HN
    rw [e2]
  have := h R.2.2 (fun j hj => e3 j (by
    unfold HN at hj
    split at hj
    · exact hj
    · omega))
  rwa [hN] at this
