/-! ===== how many places have a property ===== -/
def fb_ct (p : Nat → Bool) : Nat → Nat
  | 0 => 0
  | n + 1 => fb_ct p n + (if p n then 1 else 0)
theorem fb_ct_succ (p : Nat → Bool) (n : Nat) : fb_ct p (n + 1) = fb_ct p n + (if p n then 1 else 0) := rfl
theorem fb_ct_le (p : Nat → Bool) : ∀ n, fb_ct p n ≤ n
  | 0 => Nat.le_refl _
  | n + 1 => by
    have h := fb_ct_le p n
    rw [fb_ct_succ]
    split <;> omega
theorem fb_ct_step (p : Nat → Bool) (m : Nat) : ∀ n, fb_ct p m ≤ fb_ct p (m + n)
  | 0 => Nat.le_refl _
  | n + 1 => by
    have h := fb_ct_step p m n
    show fb_ct p m ≤ fb_ct p (m + n + 1)
    rw [fb_ct_succ]
    omega
theorem fb_ct_mono (p : Nat → Bool) {m n : Nat} (h : m ≤ n) : fb_ct p m ≤ fb_ct p n := by
  have := fb_ct_step p m (n - m)
  rwa [Nat.add_sub_cancel' h] at this
theorem fb_ct_cong {p q : Nat → Bool} : ∀ {n : Nat}, (∀ k, k < n → p k = q k) → fb_ct p n = fb_ct q n
  | 0, _ => rfl
  | n + 1, h => by
    rw [fb_ct_succ, fb_ct_succ, fb_ct_cong (fun k hk => h k (by omega)), h n (by omega)]
theorem fb_ct_sub {p q : Nat → Bool} : ∀ {n : Nat}, (∀ k, k < n → p k = true → q k = true) → fb_ct p n ≤ fb_ct q n
  | 0, _ => Nat.le_refl _
  | n + 1, h => by
    have h1 := fb_ct_sub (n := n) (p := p) (q := q) (fun k hk => h k (by omega))
    have h2 := h n (by omega)
    rw [fb_ct_succ, fb_ct_succ]
    cases hp : p n <;> cases hq : q n <;> simp_all <;> omega
theorem fb_ct_split (p : Nat → Bool) (m : Nat) : ∀ n, fb_ct p (m + n) = fb_ct p m + fb_ct (fun k => p (m + k)) n
  | 0 => rfl
  | n + 1 => by
    have h := fb_ct_split p m n
    show fb_ct p (m + n + 1) = _
    rw [fb_ct_succ, fb_ct_succ, h, Nat.add_assoc]
theorem fb_ct_zero {p : Nat → Bool} : ∀ {n : Nat}, fb_ct p n = 0 ↔ ∀ k, k < n → p k = false
  | 0 => ⟨fun _ k hk => absurd hk (Nat.not_lt_zero k), fun _ => rfl⟩
  | n + 1 => by
    have h := fb_ct_zero (p := p) (n := n)
    rw [fb_ct_succ]
    constructor
    · intro e k hk
      have e1 : fb_ct p n = 0 := by omega
      rcases Nat.lt_or_ge k n with q | q
      · exact h.mp e1 k q
      · have ek : k = n := by omega
        subst ek
        cases hp : p k
        · rfl
        · simp [hp] at e
    · intro a
      rw [h.mpr (fun k hk => a k (by omega)), a n (by omega)]
      rfl
theorem fb_ct_pos {p : Nat → Bool} {n : Nat} : 0 < fb_ct p n ↔ ∃ k, k < n ∧ p k = true := by
  constructor
  · intro h
    refine Classical.byContradiction fun hx => ?_
    have := fb_ct_zero.mpr (fun k hk => by
      cases hp : p k
      · rfl
      · exact absurd ⟨k, hk, hp⟩ hx : ∀ k, k < n → p k = false)
    omega
  · rintro ⟨k, hk, hp⟩
    rcases Nat.eq_zero_or_pos (fb_ct p n) with e | e
    · have := fb_ct_zero.mp e k hk
      rw [this] at hp
      cases hp
    · exact e
/-! ===== sums over a range: one place changed, parts, bounds ===== -/
def fb_sm (f : Nat → Nat) : Nat → Nat
  | 0 => 0
  | n + 1 => fb_sm f n + f n
theorem fb_sm_succ (f : Nat → Nat) (n : Nat) : fb_sm f (n + 1) = fb_sm f n + f n := rfl
theorem fb_sm_cong {f g : Nat → Nat} : ∀ {n : Nat}, (∀ k, k < n → f k = g k) → fb_sm f n = fb_sm g n
  | 0, _ => rfl
  | n + 1, h => by rw [fb_sm_succ, fb_sm_succ, fb_sm_cong (fun k hk => h k (by omega)), h n (by omega)]
theorem fb_sm_out (f : Nat → Nat) (v : Nat) {i n : Nat} (h : n ≤ i) : fb_sm (fun k => if k = i then v else f k) n = fb_sm f n :=
  fb_sm_cong fun k hk => if_neg (by omega)
theorem fb_sm_upd (f : Nat → Nat) (v : Nat) {i : Nat} : ∀ {n : Nat}, i < n → fb_sm (fun k => if k = i then v else f k) n + f i = fb_sm f n + v
  | 0, h => absurd h (Nat.not_lt_zero i)
  | n + 1, h => by
    rw [fb_sm_succ, fb_sm_succ]
    rcases Nat.lt_or_ge i n with q | q
    · have := fb_sm_upd f v q
      have e : (if n = i then v else f n) = f n := if_neg (by omega)
      rw [e]
      omega
    · have e : i = n := by omega
      subst e
      rw [fb_sm_out f v (Nat.le_refl _)]
      simp only [if_true]
      omega
theorem fb_sm_add (f g : Nat → Nat) : ∀ n, fb_sm (fun k => f k + g k) n = fb_sm f n + fb_sm g n
  | 0 => rfl
  | n + 1 => by
    have h := fb_sm_add f g n
    rw [fb_sm_succ, fb_sm_succ, fb_sm_succ, h]
    omega
theorem fb_sm_le {f g : Nat → Nat} : ∀ {n : Nat}, (∀ k, k < n → f k ≤ g k) → fb_sm f n ≤ fb_sm g n
  | 0, _ => Nat.le_refl _
  | n + 1, h => by
    have h1 := fb_sm_le (n := n) (f := f) (g := g) (fun k hk => h k (by omega))
    have h2 := h n (by omega)
    rw [fb_sm_succ, fb_sm_succ]
    omega
theorem fb_sm_const (c : Nat) : ∀ n, fb_sm (fun _ => c) n = n * c
  | 0 => by rw [Nat.zero_mul]; rfl
  | n + 1 => by rw [fb_sm_succ, fb_sm_const c n, Nat.succ_mul]
theorem fb_sm_bound {f : Nat → Nat} {c n : Nat} (h : ∀ k, k < n → f k ≤ c) : fb_sm f n ≤ n * c := by
  rw [← fb_sm_const c n]
  exact fb_sm_le h
theorem fb_sm_mono (f : Nat → Nat) (m : Nat) : ∀ n, fb_sm f m ≤ fb_sm f (m + n)
  | 0 => Nat.le_refl _
  | n + 1 => by
    have h := fb_sm_mono f m n
    show fb_sm f m ≤ fb_sm f (m + n + 1)
    rw [fb_sm_succ]
    omega
theorem fb_sm_part (f : Nat → Nat) {i n : Nat} (h : i < n) : fb_sm f i + f i ≤ fb_sm f n := by
  have := fb_sm_mono f (i + 1) (n - (i + 1))
  rw [fb_sm_succ, show i + 1 + (n - (i + 1)) = n by omega] at this
  exact this
theorem fb_sm_split (f : Nat → Nat) (m : Nat) : ∀ n, fb_sm f (m + n) = fb_sm f m + fb_sm (fun k => f (m + k)) n
  | 0 => rfl
  | n + 1 => by
    have h := fb_sm_split f m n
    show fb_sm f (m + n + 1) = _
    rw [fb_sm_succ, fb_sm_succ, h, Nat.add_assoc]
theorem fb_sm_zero {f : Nat → Nat} {n : Nat} (h : fb_sm f n = 0) : ∀ k, k < n → f k = 0 := fun k hk => by
  have := fb_sm_part f hk
  omega
/-! bits of a group; odds of a set -/
theorem bx_1 (i : Nat) : bt 1 i = decide (i = 0) := by
  rcases Nat.lt_or_ge i 32 with h | h
  · exact (show ∀ i, i < 32 → bt 1 i = decide (i = 0) by decide +kernel) i h
  · rw [b_big h]
    simp
    omega
theorem bx_u (g : Int32) {k : Nat} (hk : k < 32) : (gu_ushr g (nI k)) &&& 1 = if bt g k then 1 else 0 := by
  apply b_ext
  intro i hi
  rw [b_and, bx_1]
  have e : bt (gu_ushr g (nI k)) i = bt g (k + i) := b_ushr k hk g i
  rw [e]
  by_cases h0 : i = 0
  · subst h0
    cases hb : bt g k <;> simp [hb, bx_1, b_0]
  · cases hb : bt g k <;> simp [h0, bx_1, b_0]
theorem bx_s (g : Int32) {k : Nat} (hk : k < 32) : ((g >>> (nI k &&& 31)) &&& 1) = 1 ↔ bt g k = true := by
  have e : ((g >>> (nI k &&& 31)) &&& 1) = if bt g k then 1 else 0 := by
    apply b_ext
    intro i hi
    rw [b_and, bx_1, b_sshr k hk g hi]
    by_cases h0 : i = 0
    · subst h0
      rw [if_pos (by omega)]
      cases hb : bt g k <;> simp [hb, bx_1, b_0]
    · cases hb : bt g k <;> simp [h0, bx_1, b_0]
  rw [e]
  cases bt g k <;> simp
theorem bx_or (g : Int32) {k j : Nat} (hk : k < 32) (hj : j < 32) : bt (g ||| ((1 : Int32) <<< (nI k &&& 31))) j = (bt g j || decide (j = k)) := by
  rw [b_or, b_shl k hk 1 hj, bx_1]
  by_cases h : j = k
  · subst h
    simp
  · by_cases h2 : k ≤ j
    · have : ¬ j - k = 0 := by omega
      simp [h, this]
    · simp [h, h2]
theorem bx_or0 (g : Int32) : g ||| 0 = g := by
  apply b_ext
  intro i _
  rw [b_or, b_0, Bool.or_false]
theorem bx_z0 {g : Int32} : g = 0 ↔ ∀ j, j < 32 → bt g j = false := by
  constructor
  · rintro rfl j _
    exact b_0 j
  · intro h
    apply b_ext
    intro i hi
    rw [h i hi, b_0]
theorem bx_z {g : Int32} {k : Nat} (hk : k < 32) : gu_ushr g (nI k) = 0 ↔ ∀ j, k ≤ j → j < 32 → bt g j = false := by
  rw [bx_z0]
  have e : ∀ i, bt (gu_ushr g (nI k)) i = bt g (k + i) := fun i => b_ushr k hk g i
  constructor
  · intro h j h1 h2
    have := h (j - k) (by omega)
    rwa [e, show k + (j - k) = j by omega] at this
  · intro h j hj
    rw [e]
    rcases Nat.lt_or_ge (k + j) 32 with q | q
    · exact h _ (by omega) q
    · exact b_big q
theorem bx_set {s t : Nat} (hs : s < 32) (ht : t < 5) : bt (nI s) t = s.testBit t := (show ∀ s, s < 32 → ∀ t, t < 5 → bt (nI s) t = s.testBit t by decide +kernel) s hs t ht
/-- by how much a trouble weighs in a set; all of them together -/
def wfac (hd : Nat → Int32) (wo : Int32) (s t : Nat) : Nat := if s.testBit t then (if nI t = wo then 0 else (hd t).toNatClampNeg) else 16 - (if nI t = wo then 0 else (hd t).toNatClampNeg)
def wpr (hd : Nat → Int32) (wo : Int32) (s : Nat) : Nat → Nat
  | 0 => 1
  | k + 1 => wpr hd wo s k * wfac hd wo s k
def okA (hd : Nat → Int32) : Prop := ∀ t, t < 5 → 0 ≤ hd t ∧ hd t ≤ 16
theorem okA_n {hd : Nat → Int32} (h : okA hd) {t : Nat} (ht : t < 5) : ∃ k, k ≤ 16 ∧ hd t = nI k := nI_of2 (n := 16) (M := 16) (by decide) (fun q => by have := (h t ht).1; grind) (h t ht).2
theorem wfac_le {hd : Nat → Int32} {wo : Int32} {s t : Nat} (h : okA hd) (ht : t < 5) : wfac hd wo s t ≤ 16 := by
  obtain ⟨k, hk, e⟩ := okA_n h ht
  unfold wfac
  rw [e, nI_clamp (by omega)]
  repeat' split
  all_goals omega
theorem wpr_le {hd : Nat → Int32} {wo : Int32} {s : Nat} (h : okA hd) : ∀ k, k ≤ 5 → wpr hd wo s k ≤ 16 ^ k
  | 0, _ => Nat.le_refl 1
  | k + 1, hk => by
    rw [wpr, Nat.pow_succ]
    exact Nat.mul_le_mul (wpr_le h k (by omega)) (wfac_le h (by omega))
theorem wpr_5 {hd : Nat → Int32} {wo : Int32} {s : Nat} (h : okA hd) : wpr hd wo s 5 ≤ 1048576 := wpr_le h 5 (by decide)
theorem weightOf_s {s : Nat} {wo : Int32} {u : gg_M} {Q : Int32 → gg_M → Prop} (hs : s < 32) (hA : okA (u.1 11)) (h : Q (nI (wpr (u.1 11) wo s 5)) u) : w_X0_weightOf (nI s) wo u Q := by
  unfold w_X0_weightOf w_X0_weightOf_c5
  refine gl_up 5 (fun k st => st = (nI (wpr (u.1 11) wo s k), nI k, u)) 0 (by decide) rfl ?_
  rintro k st hk rfl k5 hk5
  unfold b_X0_weightOf_c5
  dsimp only
  refine ⟨fun c => ?_, fun c => ?_⟩
  · have c : nI 5 ≤ nI k := c
    rw [nI_leI (by decide) (by omega)] at c
    obtain rfl : k = 5 := by omega
    exact h
  · have c : ¬ nI 5 ≤ nI k := c
    rw [nI_leI (by decide) (by omega)] at c
    have hk4 : k < 5 := by omega
    obtain ⟨m, hm, em⟩ := okA_n hA hk4
    have go : ∀ z, z = (if nI k = wo then 0 else (u.1 11 k)) → w_X0_weightOf_c28 (nI s) wo (nI (wpr (u.1 11) wo s k)) (nI k) z u k5 Q := by
      rintro z ez
      have hzn : ∃ q, q ≤ 16 ∧ z = nI q ∧ q = (if nI k = wo then 0 else (u.1 11 k).toNatClampNeg) := by
        rw [ez]
        split
        · exact ⟨0, by decide, rfl, rfl⟩
        · exact ⟨m, hm, em, by rw [em, nI_clamp (by omega)]⟩
      obtain ⟨q, hq, eq, eq2⟩ := hzn
      unfold w_X0_weightOf_c28 w_X0_weightOf_c51
      rw [bx_u _ (by omega), bx_set hs hk4, nI_1]
      have fin : ∀ f, f = nI (wfac (u.1 11) wo s k) → ∀ v1, v1 = nI (wpr (u.1 11) wo s k) * f → k5 (v1, nI (k + 1), u) := by
        rintro f rfl v1 rfl
        rw [pk_mul]
        exact hk5 hk4 _ rfl
      unfold wfac at fin
      rw [← eq2] at fin
      refine ⟨fun c2 => fin _ ?_, fun c2 => fin _ ?_⟩
      · have hb : ¬ s.testBit k = true := fun b => by rw [if_pos b] at c2; exact c2 rfl
        rw [if_neg hb, eq, show (16 : Int32) = nI 16 from rfl, pk_sub hq]
      · have hb : s.testBit k = true := by
          by_cases b : s.testBit k = true
          · exact b
          · rw [if_neg b] at c2
            exact absurd c2 (by decide)
        rw [if_pos hb, eq]
    refine ⟨fun c2 => ⟨vp_in_nI hk4 (by decide), ?_⟩, fun c2 => go 0 (by rw [if_pos c2])⟩
    rw [nI_clamp (by omega)]
    exact go _ (by rw [if_neg c2])
theorem partsOf_s {s : Nat} {u : gg_M} {Q : Int64 → gg_M → Prop} (hs : s < 32) (hA : okA (u.1 52)) (h : Q (lN (wpr (u.1 52) (-1) s 5)) u) : w_X11_partsOf (nI s) u Q := by
  unfold w_X11_partsOf w_X11_partsOf_c5
  refine gl_up 5 (fun k st => st = (lN (wpr (u.1 52) (-1) s k), nI k, u)) 0 (by decide) rfl ?_
  rintro k st hk rfl k5 hk5
  unfold b_X11_partsOf_c5 w_X11_partsOf_c43
  dsimp only
  refine ⟨fun c => ?_, fun c => ?_⟩
  · have c : nI 5 ≤ nI k := c
    rw [nI_leI (by decide) (by omega)] at c
    obtain rfl : k = 5 := by omega
    exact h
  · have c : ¬ nI 5 ≤ nI k := c
    rw [nI_leI (by decide) (by omega)] at c
    have hk4 : k < 5 := by omega
    obtain ⟨m, hm, em⟩ := okA_n hA hk4
    have hv : vp_in (nI k) 5 := vp_in_nI hk4 (by decide)
    have hne : ¬ nI k = -1 := fun q => by
      have := nI_pos (n := k) (by omega)
      rw [q] at this
      exact this (by decide)
    have fin : ∀ f, f = lN (wfac (u.1 52) (-1) s k) → ∀ v1, v1 = lN (wpr (u.1 52) (-1) s k) * f → k5 (v1, nI (k + 1), u) := by
      rintro f rfl v1 rfl
      rw [lN_mul]
      exact hk5 hk4 _ rfl
    unfold wfac at fin
    rw [if_neg hne, em, nI_clamp (by omega)] at fin
    refine p_X11_isIn ?_
    rw [nI_1, nI_clamp (by omega), em]
    by_cases b : s.testBit k = true
    · rw [if_pos ((bx_s _ (by omega)).mpr (by rw [bx_set hs hk4]; exact b))]
      rw [if_pos b] at fin
      exact ⟨fun z => absurd z (by decide), fun _ => ⟨hv, fin _ (nI_l (by omega))⟩⟩
    · rw [if_neg (fun z => b (by have := (bx_s (nI s) (k := k) (by omega)).mp z; rwa [bx_set hs hk4] at this))]
      rw [if_neg b] at fin
      refine ⟨fun _ => ⟨hv, fin _ ?_⟩, fun z => absurd rfl z⟩
      rw [show (16 : Int32) = nI 16 from rfl, pk_sub hm, nI_l (by omega)]
theorem fill_s {t : Nat} {x : Int32} {u : gg_M} {Q : gg_M → Prop} (ha : gg_al t < 2 ^ 30) (h : ∀ f, (∀ j, j < gg_al t → f j = x) → (∀ j, gg_al t ≤ j → f j = u.1 t j) → Q (gg_wA u t f)) : w_J7_fill_53178 t x u Q := by
  unfold w_J7_fill_53178 w_J7_fill_53178_c5
  refine gl_up (gg_al t) (fun m s => ∃ f, s = (nI m, gg_wA u t f) ∧ (∀ j, j < m → f j = x) ∧ ∀ j, m ≤ j → f j = u.1 t j) 0 (by omega) ⟨u.1 t, by rw [gm_self]; rfl, fun j hj => absurd hj (by omega), fun j _ => rfl⟩ ?_
  rintro m s hm ⟨f, rfl, h1, h2⟩ k hk
  unfold b_J7_fill_53178_c5
  refine ⟨fun c => ?_, fun c => ?_⟩
  · have c : nI (gg_al t) ≤ nI m := c
    rw [nI_leI (by omega) (by omega)] at c
    have e : m = gg_al t := by omega
    rw [e] at h1 h2
    exact h f h1 h2
  · have c : ¬ nI (gg_al t) ≤ nI m := c
    rw [nI_leI (by omega) (by omega)] at c
    refine ⟨vp_in_nI (by omega) (by omega), ?_⟩
    rintro _ rfl
    refine hk (by omega) _ ⟨upd f m x, ?_, fun j hj => ?_, fun j hj => ?_⟩
    · show (nI m + 1, gg_wI (gg_wA u t f) t (nI m).toNatClampNeg x) = _
      rw [nI_1, nI_clamp (by omega), gm_I, gm_AA, gg_wA_1]
    · by_cases e : j = m
      · subst e
        rw [upd_self]
      · rw [upd_ne _ _ e]
        exact h1 j (by omega)
    · rw [upd_ne _ _ (by omega)]
      exact h2 j (by omega)
/-! the states behind acts, which sets agree with what was seen, by what weight -/
def dz_0 (mv : Nat → Int32) (s : Nat) : Nat → Int32 := dz_mk (fun _ => 0) (mv 5) (mv 6) 0 0 0 0 (nI s) 0
def rn (mv ac : Nat → Int32) (s : Nat) : Nat → Nat → Int32
  | 0 => dz_0 mv s
  | k + 1 => dz_n mv (rn mv ac s k) (ac k)
def agb (mv ac sg : Nat → Int32) (s : Nat) : Nat → Bool
  | 0 => true
  | k + 1 => agb mv ac sg s k && decide (dz_s mv (rn mv ac s k) (ac k) = sg k)
def wB (mv hd ac sg : Nat → Int32) (ns s : Nat) : Nat := if agb mv ac sg s ns then wpr hd (-1) s 5 else 0
def okS (ac sg : Nat → Int32) (ns : Nat) : Prop := ns ≤ 24 ∧ ∀ j, j < ns → (0 ≤ ac j ∧ ac j ≤ 9) ∧ 0 ≤ sg j ∧ sg j ≤ 6
theorem dz_0_O {mv : Nat → Int32} {s : Nat} (hM : dz_M mv) (hs : s < 32) : dz_O mv (dz_0 mv s) := by
  obtain ⟨-, -, -, -, -, m5, m6⟩ := hM
  have h6 : 0 ≤ nI s ∧ nI s < 32 := ⟨nI_pos' (by omega), by
    show nI s < nI 32
    rw [nI_ltI (by omega) (by decide)]
    exact hs⟩
  exact ⟨⟨m5.1, Int32.le_refl _⟩, m6, ⟨by show (0 : Int32) ≤ 0; decide, by show (0 : Int32) ≤ 60; decide⟩, z099, ⟨by show (0 : Int32) ≤ 0; decide, by show (0 : Int32) ≤ 20; decide⟩, z05, h6, Or.inl rfl⟩
theorem rn_O {mv ac : Nat → Int32} {s : Nat} (hM : dz_M mv) (hs : s < 32) : ∀ k, (∀ j, j < k → 0 ≤ ac j ∧ ac j ≤ 9) → dz_O mv (rn mv ac s k)
  | 0, _ => dz_0_O hM hs
  | k + 1, h => dz_n_O hM (rn_O hM hs k (fun j hj => h j (by omega))) (h k (by omega)).1 (by have := (h k (by omega)).2; grind)
theorem wB_le {mv hd ac sg : Nat → Int32} {ns s : Nat} (h : okA hd) : wB mv hd ac sg ns s ≤ 1048576 := by
  unfold wB
  split
  · exact wpr_5 h
  · omega
