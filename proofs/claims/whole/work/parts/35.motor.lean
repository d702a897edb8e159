/-! what the MOTOR's text says -/
def tb (n : Nat) (b : Nat → Int32) (k : Nat) : Int32 := if k < n then b k else -1
def fg (x : Int32) : Int32 := if 48 ≤ x ∧ x ≤ 57 then x - 48 else -1
def ql (x : Int32) : Int32 := if x = 112 then 0 else if x = 115 then 1 else if x = 116 then 2 else if x = 100 then 3 else if x = 99 then 4 else if x = 98 then 5 else if x = 109 then 6 else -1
def msx (w : Int32) : Int32 := gg_sv 3 w.toNatClampNeg
def mp (n : Nat) (b : Nat → Int32) : Nat → Nat → (Nat → Int32) → Int32 × (Nat → Int32)
  | 0, _, v => (-1, v)
  | f + 1, place, v =>
    if ql (tb n b place) = -1 then (nI place, v)
    else if fg (tb n b (place + 1)) = -1 ∨ ¬ (if fg (tb n b (place + 2)) = -1 then fg (tb n b (place + 1)) else 10 * fg (tb n b (place + 1)) + fg (tb n b (place + 2))) ≤ msx (ql (tb n b place)) then (nI (place + 1), v)
    else
      if n ≤ (if fg (tb n b (place + 2)) = -1 then place + 2 else place + 3) then
        (-1, upd v (ql (tb n b place)).toNatClampNeg (if fg (tb n b (place + 2)) = -1 then fg (tb n b (place + 1)) else 10 * fg (tb n b (place + 1)) + fg (tb n b (place + 2))))
      else if ¬ tb n b (if fg (tb n b (place + 2)) = -1 then place + 2 else place + 3) = 59 then
        (nI (if fg (tb n b (place + 2)) = -1 then place + 2 else place + 3), upd v (ql (tb n b place)).toNatClampNeg (if fg (tb n b (place + 2)) = -1 then fg (tb n b (place + 1)) else 10 * fg (tb n b (place + 1)) + fg (tb n b (place + 2))))
      else mp n b f ((if fg (tb n b (place + 2)) = -1 then place + 2 else place + 3) + 1) (upd v (ql (tb n b place)).toNatClampNeg (if fg (tb n b (place + 2)) = -1 then fg (tb n b (place + 1)) else 10 * fg (tb n b (place + 1)) + fg (tb n b (place + 2))))
theorem ql_b (x : Int32) : ql x = -1 ∨ (0 ≤ ql x ∧ ql x < 7) := by
  unfold ql
  repeat' split
  all_goals first | exact Or.inl rfl | exact Or.inr ⟨by decide, by decide⟩
theorem fg_b (x : Int32) : fg x = -1 ∨ (0 ≤ fg x ∧ fg x ≤ 9) := by
  unfold fg
  split <;> grind
theorem byteAt_s {t n k : Nat} {u : gg_M} {Q : Int32 → gg_M → Prop} (ht : t = 2 ∨ t = 3) (hn : u.1 t 1 = nI n) (hl : n ≤ gg_al (gg_rf t 0)) (hk : k < 1000) (h : Q (tb n (u.1 (gg_rf t 0)) k) u) : w_X8_byteAt t (nI k) u Q := by
  unfold w_X8_byteAt w_X8_byteAt_c30 w_X8_byteAt_c31
  have hal : gg_al (gg_rf t 0) ≤ 60 := by rcases ht with rfl | rfl <;> decide
  unfold tb at h
  rw [hn]
  refine ⟨fun c => absurd c (nI_pos (by omega)), fun _ => ⟨fun c => ?_, fun c => ⟨fun c2 => ?_, fun c2 => ⟨?_, ?_⟩⟩⟩⟩
  · rw [nI_leI (by omega) (by omega)] at c
    rwa [if_neg (by omega)] at h
  · have c2 : nI (gg_al (gg_rf t 0)) ≤ nI k := c2
    rw [nI_leI (by omega) (by omega)] at c c2
    rwa [if_neg (by omega)] at h
  · rw [nI_leI (by omega) (by omega)] at c
    exact vp_in_nI (by omega) (by omega)
  · rw [nI_leI (by omega) (by omega)] at c
    rw [if_pos (by omega)] at h
    rwa [nI_clamp (by omega)]
theorem figureAt_s {t n k : Nat} {u : gg_M} {Q : Int32 → gg_M → Prop} (ht : t = 2 ∨ t = 3) (hn : u.1 t 1 = nI n) (hl : n ≤ gg_al (gg_rf t 0)) (hk : k < 1000) (h : Q (fg (tb n (u.1 (gg_rf t 0)) k)) u) : w_X8_figureAt t (nI k) u Q := by
  unfold w_X8_figureAt w_X8_figureAt_c25 w_X8_figureAt_c26
  refine byteAt_s ht hn hl hk ?_
  unfold fg at h
  grind
theorem qualityOf_s {x : Int32} {u : gg_M} {Q : Int32 → gg_M → Prop} (h : Q (ql x) u) : w_X4_qualityOf x u Q := by
  unfold w_X4_qualityOf w_X4_qualityOf_c2
  have e : ∀ m, m ≤ 7 → (∀ j, j < m → ¬ gg_sv 1 j = x) → (m < 7 → gg_sv 1 m = x → ql x = nI m) ∧ (m = 7 → ql x = -1) := by
    intro m hm hj
    have s0 : gg_sv 1 0 = 112 := rfl
    have s1 : gg_sv 1 1 = 115 := rfl
    have s2 : gg_sv 1 2 = 116 := rfl
    have s3 : gg_sv 1 3 = 100 := rfl
    have s4 : gg_sv 1 4 = 99 := rfl
    have s5 : gg_sv 1 5 = 98 := rfl
    have s6 : gg_sv 1 6 = 109 := rfl
    constructor
    · intro h7 he
      subst he
      match m, h7 with
      | 0, _ => decide
      | 1, _ => decide
      | 2, _ => decide
      | 3, _ => decide
      | 4, _ => decide
      | 5, _ => decide
      | 6, _ => decide
      | m + 7, h => exact absurd h (by omega)
    · intro h7
      subst h7
      have j0 := hj 0 (by decide)
      have j1 := hj 1 (by decide)
      have j2 := hj 2 (by decide)
      have j3 := hj 3 (by decide)
      have j4 := hj 4 (by decide)
      have j5 := hj 5 (by decide)
      have j6 := hj 6 (by decide)
      rw [s0] at j0
      rw [s1] at j1
      rw [s2] at j2
      rw [s3] at j3
      rw [s4] at j4
      rw [s5] at j5
      rw [s6] at j6
      unfold ql
      rw [if_neg (Ne.symm j0), if_neg (Ne.symm j1), if_neg (Ne.symm j2), if_neg (Ne.symm j3), if_neg (Ne.symm j4), if_neg (Ne.symm j5), if_neg (Ne.symm j6)]
  refine gl_up 7 (fun m s => s = (nI m, u) ∧ ∀ j, j < m → ¬ gg_sv 1 j = x) 0 (by decide) ⟨rfl, fun j hj => absurd hj (by omega)⟩ ?_
  rintro m s hm ⟨rfl, hj⟩ k hk
  unfold b_X4_qualityOf_c2
  refine ⟨fun c => ?_, fun c => ⟨?_, fun c2 => ?_, fun c2 => ?_⟩⟩
  · have c : nI 7 ≤ nI m := c
    rw [nI_leI (by decide) (by omega)] at c
    rw [(e m hm hj).2 (by omega)] at h
    exact h
  · have c : ¬ nI 7 ≤ nI m := c
    rw [nI_leI (by decide) (by omega)] at c
    exact vp_in_nI (by omega) (by decide)
  · have c : ¬ nI 7 ≤ nI m := c
    rw [nI_leI (by decide) (by omega)] at c
    rw [nI_clamp (by omega)] at c2
    refine hk (by omega) _ ⟨by rw [nI_1], fun j hj2 => ?_⟩
    rcases Nat.lt_or_ge j m with q | q
    · exact hj j q
    · rw [show j = m by omega]
      exact c2
  · have c : ¬ nI 7 ≤ nI m := c
    rw [nI_leI (by decide) (by omega)] at c
    rw [nI_clamp (by omega)] at c2
    rw [(e m hm hj).1 (by omega) c2] at h
    exact h
theorem reset_s {u : gg_M} {Q : gg_M → Prop} (h : ∀ f, (∀ j, j < 7 → f j = gg_sv 2 j) → (∀ j, 7 ≤ j → f j = u.1 7 j) → Q (gg_wA u 7 f)) : w_X4_reset u Q := by
  unfold w_X4_reset w_X4_reset_c2
  refine gl_up 7 (fun m s => ∃ f, s = (nI m, gg_wA u 7 f) ∧ (∀ j, j < m → f j = gg_sv 2 j) ∧ ∀ j, m ≤ j → f j = u.1 7 j) 0 (by decide) ⟨u.1 7, by rw [gm_self]; rfl, fun j hj => absurd hj (by omega), fun j _ => rfl⟩ ?_
  rintro m s hm ⟨f, rfl, h1, h2⟩ k hk
  unfold b_X4_reset_c2
  refine ⟨fun c => ?_, fun c => ?_⟩
  · have c : nI 7 ≤ nI m := c
    rw [nI_leI (by decide) (by omega)] at c
    obtain rfl : m = 7 := by omega
    exact h f h1 h2
  · have c : ¬ nI 7 ≤ nI m := c
    rw [nI_leI (by decide) (by omega)] at c
    have hv : vp_in (nI m) 7 := vp_in_nI (by omega) (by decide)
    refine ⟨hv, hv, ?_⟩
    rintro _ rfl
    refine hk (by omega) _ ⟨upd f m (gg_sv 2 m), ?_, fun j hj => ?_, fun j hj => ?_⟩
    · show (nI m + 1, gg_wI (gg_wA u 7 f) 7 (nI m).toNatClampNeg (gg_sv 2 (nI m).toNatClampNeg)) = _
      rw [nI_1, nI_clamp (by omega), gm_I, gm_AA, gg_wA_1]
    · by_cases e : j = m
      · subst e
        rw [upd_self]
      · rw [upd_ne _ _ e]
        exact h1 j (by omega)
    · rw [upd_ne _ _ (by omega)]
      exact h2 j (by omega)
theorem mp_pl {p q : Nat} {c : Prop} [Decidable c] : (if c then p else q) = p ∨ (if c then p else q) = q := by
  split
  · exact Or.inl rfl
  · exact Or.inr rfl
theorem faultOf_c116 {n place part d : Nat} {u : gg_M} {z1 : Int32} {k4 : Int32 × Int32 × gg_M → Prop} {Q : Int32 → gg_M → Prop} (hn : u.1 2 1 = nI n) (hl : n ≤ 60) (hp : place ≤ 200) (hd : z1 = nI d) (hd2 : d ≤ 3)
    (h1 : n ≤ place + d → Q (-1) u) (h2 : ¬ n ≤ place + d → ¬ tb n (u.1 4) (place + d) = 59 → Q (nI (place + d)) u) (h3 : ¬ n ≤ place + d → tb n (u.1 4) (place + d) = 59 → k4 (nI (place + d + 1), nI (part + 1), u)) : w_X4_faultOf_c116 2 (nI part) (nI place) z1 u k4 Q := by
  unfold w_X4_faultOf_c116
  subst hd
  rintro v1 rfl
  rw [nI_add, hn]
  refine ⟨fun c => ?_, fun c => ?_⟩
  · rw [nI_ltI (by omega) (by omega)] at c
    refine byteAt_s (Or.inl rfl) hn hl (by omega) ⟨fun e => ?_, fun e => h2 (by omega) e⟩
    rw [nI_1, nI_1]
    exact h3 (by omega) e
  · rw [nI_ltI (by omega) (by omega)] at c
    exact h1 (by omega)
theorem faultOf_s {n : Nat} {u : gg_M} {Q : Int32 → gg_M → Prop} (hn : u.1 2 1 = nI n) (hl : n ≤ 60)
    (h : Q (if n = 0 then (-1, u.1 7) else mp n (u.1 4) 61 0 (u.1 7)).1 (gg_wA u 7 (if n = 0 then (-1, u.1 7) else mp n (u.1 4) 61 0 (u.1 7)).2)) : w_X4_faultOf 2 u Q := by
  unfold w_X4_faultOf w_X4_faultOf_c4
  refine gl_up 60 (fun part s => ∃ place v, s = (nI place, nI part, gg_wA u 7 v) ∧ place ≤ n ∧ 3 * part ≤ place ∧ (¬ n = 0 → mp n (u.1 4) (61 - part) place v = mp n (u.1 4) 61 0 (u.1 7)) ∧ (n = 0 → v = u.1 7)) 0 (by decide) ⟨0, u.1 7, by rw [gm_self]; rfl, by omega, by omega, fun _ => rfl, fun _ => rfl⟩ ?_
  rintro part s hm ⟨place, v, rfl, hp1, hp2, hmp, hv0⟩ k hk
  unfold b_X4_faultOf_c4 w_X4_faultOf_c149
  have hn' : (gg_wA u 7 v).1 2 1 = nI n := by rw [gg_wA_n _ _ (by decide)]; exact hn
  have h4 : (gg_wA u 7 v).1 4 = u.1 4 := gg_wA_n _ _ (by decide)
  refine ⟨fun c => ?_, fun c => ⟨fun c2 => ?_, fun c2 => ?_⟩⟩
  · have c : nI 60 ≤ nI part := c
    rw [nI_leI (by decide) (by omega)] at c
    omega
  · have c2 : (gg_wA u 7 v).1 2 1 ≤ nI 0 := c2
    rw [hn', nI_leI (by omega) (by decide)] at c2
    have e0 : n = 0 := by omega
    rw [if_pos e0] at h
    rw [hv0 e0]
    exact h
  · have c2 : ¬ (gg_wA u 7 v).1 2 1 ≤ nI 0 := c2
    rw [hn', nI_leI (by omega) (by decide)] at c2
    have e0 : ¬ n = 0 := by omega
    rw [if_neg e0, ← hmp e0, show 61 - part = (60 - part) + 1 by omega] at h
    have hm2 := hmp e0
    rw [show 61 - part = (60 - part) + 1 by omega] at hm2
    rw [mp] at h hm2
    refine byteAt_s (Or.inl rfl) hn' hl (by omega) ?_
    rw [show gg_rf 2 0 = 4 from rfl, h4]
    generalize hx0 : tb n (u.1 4) place = x0 at h hm2
    refine qualityOf_s ?_
    refine ⟨fun c3 => ?_, fun c3 => by rw [if_pos c3] at h; exact h⟩
    rw [if_neg c3] at h hm2
    have e1 : nI place + 1 = nI (place + 1) := nI_1 place
    have e2 : nI place + 2 = nI (place + 2) := nI_add place 2
    show w_X8_figureAt 2 (nI place + 1) _ _
    rw [e1]
    refine figureAt_s (Or.inl rfl) hn' hl (by omega) ?_
    show w_X8_figureAt 2 (nI place + 2) _ _
    rw [e2]
    refine figureAt_s (Or.inl rfl) hn' hl (by omega) ?_
    rw [show gg_rf 2 0 = 4 from rfl, h4]
    generalize hx1 : fg (tb n (u.1 4) (place + 1)) = x1 at h hm2
    generalize hx2 : fg (tb n (u.1 4) (place + 2)) = x2 at h hm2
    have hq : 0 ≤ ql x0 ∧ ql x0 < 7 := (ql_b x0).resolve_left c3
    have hv7 : vp_in (ql x0) 7 := vin_of (by decide) hq.1 hq.2
    have go : ∀ num, num = (if x2 = -1 then x1 else 10 * x1 + x2) → w_X4_faultOf_c72 2 (nI place) (nI part) (ql x0) x1 x2 num (gg_wA u 7 v) k Q := by
      rintro num hnum
      rw [← hnum] at h hm2
      unfold w_X4_faultOf_c72 w_X4_faultOf_c91
      refine ⟨fun c4 => ?_, fun c4 => ⟨hv7, fun c5 => ⟨hv7, ?_⟩, fun c5 => ?_⟩⟩
      · rw [if_pos (Or.inl c4)] at h
        rw [nI_1]
        exact h
      · have c6 : ¬ (x1 = -1 ∨ ¬ num ≤ msx (ql x0)) := fun q => q.elim c4 (fun z => z c5)
        rw [if_neg c6] at h hm2
        rintro _ rfl
        rw [gm_I, gm_AA, gg_wA_1]
        have hn2 : ∀ f, (gg_wA u 7 f).1 2 1 = nI n := fun f => by rw [gg_wA_n _ _ (by decide)]; exact hn
        have h42 : ∀ f, (gg_wA u 7 f).1 4 = u.1 4 := fun f => gg_wA_n _ _ (by decide)
        refine ⟨fun c7 => ?_, fun c7 => ?_⟩
        · rw [if_neg c7] at h hm2
          refine faultOf_c116 (d := 3) (hn2 _) hl (by omega) rfl (by decide) (fun q => ?_) (fun q1 q2 => ?_) (fun q1 q2 => ?_)
          · rw [if_pos q] at h
            exact h
          · rw [h42] at q2
            rw [if_neg q1, if_pos q2] at h
            exact h
          · rw [h42] at q2
            rw [if_neg q1, if_neg (fun z => z q2)] at hm2
            exact hk (by omega) _ ⟨place + 3 + 1, _, rfl, by omega, by omega, fun _ => by rw [show 61 - (part + 1) = 60 - part by omega]; exact hm2, fun z => absurd z e0⟩
        · rw [if_pos c7] at h hm2
          refine faultOf_c116 (d := 2) (hn2 _) hl (by omega) rfl (by decide) (fun q => ?_) (fun q1 q2 => ?_) (fun q1 q2 => ?_)
          · rw [if_pos q] at h
            exact h
          · rw [h42] at q2
            rw [if_neg q1, if_pos q2] at h
            exact h
          · rw [h42] at q2
            rw [if_neg q1, if_neg (fun z => z q2)] at hm2
            exact hk (by omega) _ ⟨place + 2 + 1, _, rfl, by omega, by omega, fun _ => by rw [show 61 - (part + 1) = 60 - part by omega]; exact hm2, fun z => absurd z e0⟩
      · have c5 : ¬ num ≤ msx (ql x0) := c5
        rw [if_pos (Or.inr c5)] at h
        rw [nI_1]
        exact h
    exact ⟨fun c4 => go _ (by rw [if_neg c4]), fun c4 => go _ (by rw [if_pos c4])⟩
/-! the reference reads it so too -/
theorem plain_s {u : gg_M} {Q : gg_M → Prop} (h : ∀ f, (∀ j, j < 7 → f j = gg_sv 2 j) → Q (gg_wA u 49 f)) : w_X11_plain u Q := by
  unfold w_X11_plain
  rintro _ rfl _ rfl _ rfl _ rfl _ rfl _ rfl _ rfl
  simp only [gm_I, gm_AA, gg_wA_1]
  refine h _ (fun j hj => ?_)
  match j, hj with
  | 0, _ => rfl
  | 1, _ => rfl
  | 2, _ => rfl
  | 3, _ => rfl
  | 4, _ => rfl
  | 5, _ => rfl
  | 6, _ => rfl
  | j + 7, h => exact absurd h (by omega)
theorem letterOf_s {x : Int32} {u : gg_M} {Q : Int32 → gg_M → Prop} (h : Q (ql x) u) : w_X11_letterOf x u Q := by
  unfold w_X11_letterOf w_X11_letterOf_c72
  unfold ql at h
  grind
theorem msx_e {w : Int32} (h0 : 0 ≤ w) (h1 : w < 7) : msx w = if w = 2 then 20 else if w = 5 then 30 else if w = 6 then 99 else 9 :=
  i32_lt (P := fun w => msx w = if w = 2 then 20 else if w = 5 then 30 else if w = 6 then 99 else 9) 7 7 rfl (by decide) h0 h1 (by decide +kernel)
theorem mostOf_s {w : Int32} {u : gg_M} {Q : Int32 → gg_M → Prop} (h0 : 0 ≤ w) (h1 : w < 7) (h : Q (msx w) u) : w_X11_mostOf w u Q := by
  unfold w_X11_mostOf w_X11_mostOf_c33
  rw [msx_e h0 h1] at h
  grind
theorem mbyteAt_s {x : Int32} {t n k : Nat} {u : gg_M} {Q : Int32 → gg_M → Prop} (hx : x = nI t) (ht : t < 2) (hn : u.1 48 t = nI n) (hl : n ≤ 60) (hk : k < 1000) (h : Q (tb n (fun j => u.1 47 (60 * t + j)) k) u) : w_X11_byteAt x (nI k) u Q := by
  unfold w_X11_byteAt w_X11_byteAt_c25
  subst hx
  rw [nI_clamp (by omega), hn]
  have e : (60 : Int32) * nI t + nI k = nI (60 * t + k) := by rw [show (60 : Int32) = nI 60 from rfl, pk_mul, nI_add]
  rw [e, nI_clamp (by omega)]
  unfold tb at h
  refine ⟨vp_in_nI ht (by decide), fun c => ?_, fun c => ⟨?_, ?_⟩⟩
  · rw [nI_leI (by omega) (by omega)] at c
    rwa [if_neg (by omega)] at h
  · rw [nI_leI (by omega) (by omega)] at c
    exact vp_in_nI (by omega) (by decide)
  · rw [nI_leI (by omega) (by omega)] at c
    rwa [if_pos (by omega)] at h
theorem isFigure_s {x : Int32} {u : gg_M} {Q : Int32 → gg_M → Prop} (h : Q (if fg x = -1 then 0 else 1) u) : w_X11_isFigure x u Q := by
  unfold w_X11_isFigure w_X11_isFigure_c16 w_X11_isFigure_c17
  unfold fg at h
  grind
def mmu (u : gg_M) (v : Nat → Int32) (p : Nat) : gg_M := gg_wI (gg_wA u 49 v) 1 5 (nI p)
theorem mmu_p (u : gg_M) (v : Nat → Int32) (p : Nat) : (mmu u v p).1 1 5 = nI p := gi_eq _ _ _ _
theorem mmu_n (u : gg_M) (v : Nat → Int32) (p : Nat) {t : Nat} (h1 : t ≠ 1) (h2 : t ≠ 49) : (mmu u v p).1 t = u.1 t := by
  unfold mmu
  rw [gi_nt _ _ _ _ h1, gg_wA_n _ _ h2]
theorem mmu_v (u : gg_M) (v : Nat → Int32) (p : Nat) : (mmu u v p).1 49 = v := by
  unfold mmu
  rw [gi_nt _ _ _ _ (by decide), gg_wA_1]
theorem gm_AC (u : gg_M) {t a : Nat} (f g : Nat → Int32) (h : t ≠ a) : gg_wA (gg_wA u t f) a g = gg_wA (gg_wA u a g) t f := by
  unfold gg_wA
  refine Prod.ext (funext fun x => ?_) rfl
  by_cases h1 : x = a
  · subst h1
    simp [Ne.symm h]
  · by_cases h2 : x = t <;> simp [h1, h2, h]
theorem mmu_w (u : gg_M) (v : Nat → Int32) (p k : Nat) (x : Int32) : gg_wI (mmu u v p) 49 k x = mmu u (upd v k x) p := by
  unfold mmu
  simp only [gm_I]
  rw [gm_AC _ _ _ (show (1 : Nat) ≠ 49 by decide), gg_wA_n _ _ (show (49 : Nat) ≠ 1 by decide), gg_wA_1, gm_AA, gg_wA_n _ _ (show (1 : Nat) ≠ 49 by decide), gg_wA_n _ _ (show (1 : Nat) ≠ 49 by decide)]
theorem mmu_a (u : gg_M) (v : Nat → Int32) (p q : Nat) : gg_wI (mmu u v p) 1 5 (nI q) = mmu u v q := by
  unfold mmu
  simp only [gm_I, gm_AA, gg_wA_1]
  congr 1
  funext j
  unfold upd
  split <;> rfl
theorem fg_ge {n k : Nat} {b : Nat → Int32} (h : ¬ fg (tb n b k) = -1) : k < n := by
  rcases Nat.lt_or_ge k n with q | q
  · exact q
  · exact absurd (by unfold tb; rw [if_neg (by omega)]; decide) h
theorem mfault_c125 {n place i : Nat} {u : gg_M} {v b : Nat → Int32} {num w : Int32} {k9 : gg_M → Prop} {Q : Int32 → gg_M → Prop} (hb : b = fun j => u.1 47 (60 * 0 + j)) (hn : u.1 48 0 = nI n) (hl : n ≤ 60) (hp : place ≤ n) (h0 : 0 ≤ w) (h1 : w < 7) (hi : i ≤ 2) (hin : i ≠ 0 → place + 1 + i ≤ n)
    (q0 : i = 0 → Q (nI (place + 1)) (mmu u v (place + 1))) (qm : i ≠ 0 → ¬ num ≤ msx w → Q (nI (place + 1)) (mmu u v (place + 1 + i)))
    (q1 : i ≠ 0 → num ≤ msx w → n = place + 1 + i → Q (-1) (mmu u (upd v w.toNatClampNeg num) (place + 1 + i)))
    (q2 : i ≠ 0 → num ≤ msx w → n ≠ place + 1 + i → ¬ tb n b (place + 1 + i) = 59 → Q (nI (place + 1 + i)) (mmu u (upd v w.toNatClampNeg num) (place + 1 + i)))
    (q3 : i ≠ 0 → num ≤ msx w → n ≠ place + 1 + i → tb n b (place + 1 + i) = 59 → k9 (mmu u (upd v w.toNatClampNeg num) (place + 1 + i + 1))) :
    w_X11_motorFault_c125 w (nI (place + 1)) num (mmu u v (place + 1 + i)) k9 Q := by
  unfold w_X11_motorFault_c125 w_X11_motorFault_c141
  rw [mmu_p]
  refine ⟨fun c => ?_, fun c => mostOf_s h0 h1 ⟨fun c2 => ⟨vin_of (by decide) h0 h1, ?_⟩, fun c2 => ?_⟩⟩
  · rw [nI_eq (by omega) (by omega)] at c
    obtain rfl : i = 0 := by omega
    exact q0 rfl
  · rw [nI_eq (by omega) (by omega)] at c
    rintro _ rfl
    rw [mmu_w, mmu_p, mmu_n _ _ _ (by decide) (by decide), hn]
    refine ⟨fun c3 => ?_, fun c3 => ?_⟩
    · rw [nI_eq (by omega) (by omega)] at c3
      refine mbyteAt_s (t := 0) (n := n) rfl (by decide) (by rw [mmu_n _ _ _ (by decide) (by decide)]; exact hn) hl (by omega) ?_
      rw [mmu_n _ _ _ (by decide) (by decide), ← hb, mmu_p]
      refine ⟨fun c4 => ?_, fun c4 => q2 (by omega) c2 (Ne.symm c3) c4⟩
      rintro _ rfl
      rw [nI_1, mmu_a]
      exact q3 (by omega) c2 (Ne.symm c3) c4
    · rw [nI_eq (by omega) (by omega)] at c3
      exact q1 (by omega) c2 c3.symm
  · rw [nI_eq (by omega) (by omega)] at c
    exact qm (by omega) c2
theorem mfault_s {n : Nat} {u : gg_M} {b : Nat → Int32} {Q : Int32 → gg_M → Prop} (hb : b = fun j => u.1 47 (60 * 0 + j)) (hn : u.1 48 0 = nI n) (hl : n ≤ 60)
    (h : ∀ f, (∀ j, j < 7 → f j = gg_sv 2 j) → ∀ p, Q (if n = 0 then (-1, f) else mp n b 61 0 f).1 (mmu u (if n = 0 then (-1, f) else mp n b 61 0 f).2 p)) : w_X11_motorFault u Q := by
  unfold w_X11_motorFault
  refine plain_s fun f hf => ?_
  rintro _ rfl
  have e0 : gg_wI (gg_wA u 49 f) 1 5 0 = mmu u f 0 := rfl
  rw [e0]
  replace h := h f hf
  unfold w_X11_motorFault_c9
  refine gl_up 60 (fun part s => ∃ place v, s = mmu u v place ∧ place ≤ n ∧ 3 * part ≤ place ∧ (¬ n = 0 → mp n b (61 - part) place v = mp n b 61 0 f) ∧ (n = 0 → v = f)) 0 (by decide) ⟨0, f, rfl, by omega, by omega, fun _ => rfl, fun _ => rfl⟩ ?_
  rintro part s hm ⟨place, v, rfl, hp1, hp2, hmp, hv0⟩ k hk
  have main : ¬ n = 0 → w_X11_motorFault_c29 (mmu u v place) k Q := by
    intro e0
    rw [if_neg e0, ← hmp e0, show 61 - part = (60 - part) + 1 by omega] at h
    have hm2 := hmp e0
    rw [show 61 - part = (60 - part) + 1 by omega] at hm2
    rw [mp] at h hm2
    unfold w_X11_motorFault_c29
    have hn' : ∀ v p, (mmu u v p).1 48 0 = nI n := fun v p => by rw [mmu_n _ _ _ (by decide) (by decide)]; exact hn
    have hb' : ∀ v p, (fun j => (mmu u v p).1 47 (60 * 0 + j)) = b := fun v p => by rw [mmu_n _ _ _ (by decide) (by decide), hb]
    rw [mmu_p]
    refine mbyteAt_s (t := 0) (n := n) rfl (by decide) (hn' _ _) hl (by omega) ?_
    rw [hb']
    generalize hx0 : tb n b place = x0 at h hm2
    refine letterOf_s ⟨fun c3 => ?_, fun c3 => by rw [if_pos c3] at h; rw [mmu_p]; exact h place⟩
    rw [if_neg c3] at h hm2
    have hq : 0 ≤ ql x0 ∧ ql x0 < 7 := (ql_b x0).resolve_left c3
    rintro _ rfl
    rw [mmu_p, nI_1, mmu_a, mmu_p]
    rintro _ rfl
    unfold w_X11_motorFault_c69
    generalize hx1 : fg (tb n b (place + 1)) = x1 at h hm2
    generalize hx2 : fg (tb n b (place + 2)) = x2 at h hm2
    have b1 := fg_b (tb n b (place + 1))
    have b2 := fg_b (tb n b (place + 2))
    rw [hx1] at b1
    rw [hx2] at b2
    refine gl_up 2 (fun i s => s = ((if i = 0 then 0 else if i = 1 then x1 else 10 * x1 + x2), mmu u v (place + 1 + i)) ∧ (1 ≤ i → ¬ x1 = -1) ∧ (2 ≤ i → ¬ x2 = -1)) 0 (by decide) ⟨rfl, by omega, by omega⟩ ?_
    rintro i s hi ⟨rfl, d1, d2⟩ k69 hk69
    unfold b_X11_motorFault_c69
    have fin : (i = 0 → x1 = -1) → (i = 1 → x2 = -1) → w_X11_motorFault_c125 (ql x0) (nI (place + 1)) (if i = 0 then 0 else if i = 1 then x1 else 10 * x1 + x2) (mmu u v (place + 1 + i)) k Q := by
      intro f0 f1
      have hin : i ≠ 0 → place + 1 + i ≤ n := fun hz => by
        rcases (show i = 1 ∨ i = 2 by omega) with rfl | rfl
        · have := fg_ge (n := n) (b := b) (k := place + 1) (by rw [hx1]; exact d1 (by omega))
          omega
        · have := fg_ge (n := n) (b := b) (k := place + 2) (by rw [hx2]; exact d2 (by omega))
          omega
      have hnum : i ≠ 0 → (if i = 0 then 0 else if i = 1 then x1 else 10 * x1 + x2) = (if x2 = -1 then x1 else 10 * x1 + x2) := fun hz => by
        rcases (show i = 1 ∨ i = 2 by omega) with rfl | rfl
        · rw [if_pos (f1 rfl)]; rfl
        · rw [if_neg (d2 (by omega))]; rfl
      have hpl : i ≠ 0 → (if x2 = -1 then place + 2 else place + 3) = place + 1 + i := fun hz => by
        rcases (show i = 1 ∨ i = 2 by omega) with rfl | rfl
        · rw [if_pos (f1 rfl)]
        · rw [if_neg (d2 (by omega))]
      refine mfault_c125 hb hn hl hp1 hq.1 hq.2 hi hin (fun hz => ?_) (fun hz c => ?_) (fun hz c c2 => ?_) (fun hz c c2 c3 => ?_) (fun hz c c2 c3 => ?_)
      · rw [if_pos (Or.inl (f0 hz))] at h
        exact h _
      · rw [hnum hz] at c
        rw [if_pos (Or.inr c)] at h
        exact h _
      · rw [hnum hz] at c ⊢
        rw [if_neg (fun q => q.elim (d1 (by omega)) (fun z => z c)), hpl hz, if_pos (by omega)] at h
        exact h _
      · rw [hnum hz] at c ⊢
        rw [if_neg (fun q => q.elim (d1 (by omega)) (fun z => z c)), hpl hz, if_neg (by have := hin hz; omega), if_pos c3] at h
        exact h _
      · rw [hnum hz] at c ⊢
        rw [if_neg (fun q => q.elim (d1 (by omega)) (fun z => z c)), hpl hz, if_neg (by have := hin hz; omega), if_neg (fun z => z c3)] at hm2
        exact hk (by have := hin hz; omega) _ ⟨place + 1 + i + 1, _, rfl, by have := hin hz; omega, by omega, fun _ => by rw [show 61 - (part + 1) = 60 - part by omega]; exact hm2, fun z => absurd z e0⟩
    show (nI (place + 1) + 2 ≤ (mmu u v (place + 1 + i)).1 1 5 → _) ∧ _
    rw [mmu_p, show (2 : Int32) = nI 2 from rfl, nI_add]
    refine ⟨fun c => ?_, fun c => ?_⟩
    · rw [nI_leI (by omega) (by omega)] at c
      exact fin (by omega) (by omega)
    · rw [nI_leI (by omega) (by omega)] at c
      show w_X11_byteAt 0 ((mmu u v (place + 1 + i)).1 1 5) _ _
      rw [mmu_p]
      refine mbyteAt_s (t := 0) (n := n) rfl (by decide) (hn' _ _) hl (by omega) ?_
      rw [hb']
      have hxi : fg (tb n b (place + 1 + i)) = if i = 0 then x1 else x2 := by
        rcases (show i = 0 ∨ i = 1 by omega) with rfl | rfl
        · exact hx1
        · exact hx2
      refine isFigure_s ?_
      rw [hxi]
      refine ⟨fun c2 => fin (fun hz => ?_) (fun hz => ?_), fun c2 => ?_⟩
      · subst hz
        by_cases q : x1 = -1
        · exact q
        · rw [if_pos rfl, if_neg q] at c2
          exact absurd c2 (by decide)
      · subst hz
        by_cases q : x2 = -1
        · exact q
        · rw [if_neg (by decide : ¬ (1 : Nat) = 0), if_neg q] at c2
          exact absurd c2 (by decide)
      · have hne : ¬ (if i = 0 then x1 else x2) = -1 := fun q => by rw [if_pos q] at c2; exact c2 rfl
        rw [mmu_p]
        refine mbyteAt_s (t := 0) (n := n) rfl (by decide) (hn' _ _) hl (by omega) ?_
        rw [hb', mmu_p]
        rintro _ rfl _ rfl
        rw [nI_1, mmu_a]
        refine hk69 (by omega) _ ⟨?_, ?_, ?_⟩
        · have efg : tb n b (place + 1 + i) - 48 = (if i = 0 then x1 else x2) := by
            rw [← hxi] at hne ⊢
            unfold fg at hne ⊢
            split
            · rfl
            · next q => rw [if_neg q] at hne; exact absurd rfl hne
          rcases (show i = 0 ∨ i = 1 by omega) with rfl | rfl
          · have : (10 : Int32) * 0 + tb n b (place + 1 + 0) - 48 = x1 := by
              have e : tb n b (place + 1 + 0) - 48 = x1 := efg
              grind
            show (_, mmu u v (place + 1 + 0 + 1)) = _
            rw [if_pos rfl, this]
            rfl
          · have : (10 : Int32) * x1 + tb n b (place + 1 + 1) - 48 = 10 * x1 + x2 := by
              have e : tb n b (place + 1 + 1) - 48 = x2 := efg
              grind
            show (_, mmu u v (place + 1 + 1 + 1)) = _
            rw [if_neg (by decide : ¬ (1 : Nat) = 0), if_pos rfl, this]
            rfl
        · intro _
          rcases (show i = 0 ∨ i = 1 by omega) with rfl | rfl
          · exact hne
          · exact d1 (by omega)
        · intro hz
          rcases (show i = 0 ∨ i = 1 by omega) with rfl | rfl
          · omega
          · exact hne
  unfold b_X11_motorFault_c9
  rw [mmu_p, mmu_n _ _ _ (by decide) (by decide), hn]
  refine ⟨fun c => ?_, fun c => ⟨fun c2 => ?_, fun c2 => ?_⟩⟩
  · rw [nI_ltI (by omega) (by omega)] at c
    exact main (by omega)
  · have c2 : nI place ≤ nI 0 := c2
    rw [nI_ltI (by omega) (by omega)] at c
    rw [nI_leI (by omega) (by decide)] at c2
    have e0 : n = 0 := by omega
    rw [if_pos e0] at h
    rw [hv0 e0]
    exact h place
  · have c2 : ¬ nI place ≤ nI 0 := c2
    rw [nI_leI (by omega) (by decide)] at c2
    exact main (by omega)
theorem tb_b {n : Nat} {b c : Nat → Int32} (h : ∀ j, j < n → b j = c j) (k : Nat) : tb n b k = tb n c k := by
  unfold tb
  split
  · next q => exact h k q
  · rfl
theorem mp_b {n : Nat} {b c : Nat → Int32} (h : ∀ j, j < n → b j = c j) : ∀ f p v, mp n b f p v = mp n c f p v
  | 0, p, v => rfl
  | f + 1, p, v => by
    rw [mp, mp]
    simp only [tb_b h, mp_b h f]
def ek7 (f g : Nat → Int32) : Prop := ∀ j, j < 7 → f j = g j
theorem ek7.up {f g : Nat → Int32} (h : ek7 f g) (k : Nat) (x : Int32) : ek7 (upd f k x) (upd g k x) := fun j hj => by
  unfold upd
  split
  · rfl
  · exact h j hj
theorem mp_v {n : Nat} {b : Nat → Int32} : ∀ f p v w, ek7 v w → (mp n b f p v).1 = (mp n b f p w).1 ∧ ek7 (mp n b f p v).2 (mp n b f p w).2
  | 0, p, v, w, h => ⟨rfl, h⟩
  | f + 1, p, v, w, h => by
    rw [mp, mp]
    generalize (if fg (tb n b (p + 2)) = -1 then p + 2 else p + 3) = pl
    generalize (if fg (tb n b (p + 2)) = -1 then fg (tb n b (p + 1)) else 10 * fg (tb n b (p + 1)) + fg (tb n b (p + 2))) = num
    generalize fg (tb n b (p + 1)) = x1
    generalize ql (tb n b p) = q
    by_cases c1 : q = -1
    · rw [if_pos c1, if_pos c1]
      exact ⟨rfl, h⟩
    · rw [if_neg c1, if_neg c1]
      by_cases c2 : x1 = -1 ∨ ¬ num ≤ msx q
      · rw [if_pos c2, if_pos c2]
        exact ⟨rfl, h⟩
      · rw [if_neg c2, if_neg c2]
        by_cases c3 : n ≤ pl
        · rw [if_pos c3, if_pos c3]
          exact ⟨rfl, h.up _ _⟩
        · rw [if_neg c3, if_neg c3]
          by_cases c4 : ¬ tb n b pl = 59
          · rw [if_pos c4, if_pos c4]
            exact ⟨rfl, h.up _ _⟩
          · rw [if_neg c4, if_neg c4]
            exact mp_v f _ _ _ (h.up _ _)
def okM (v : Nat → Int32) : Prop := ∀ j, j < 7 → 0 ≤ v j ∧ v j ≤ gg_sv 3 j
theorem mp_ok {n : Nat} {b : Nat → Int32} : ∀ f p v, okM v → okM (mp n b f p v).2
  | 0, p, v, h => h
  | f + 1, p, v, h => by
    rw [mp]
    have b1 := fg_b (tb n b (p + 1))
    have b2 := fg_b (tb n b (p + 2))
    have hq := ql_b (tb n b p)
    have hnum : ¬ fg (tb n b (p + 1)) = -1 → 0 ≤ (if fg (tb n b (p + 2)) = -1 then fg (tb n b (p + 1)) else 10 * fg (tb n b (p + 1)) + fg (tb n b (p + 2))) := by
      intro c
      generalize fg (tb n b (p + 1)) = x1 at *
      generalize fg (tb n b (p + 2)) = x2 at *
      split <;> grind
    generalize (if fg (tb n b (p + 2)) = -1 then p + 2 else p + 3) = pl
    generalize (if fg (tb n b (p + 2)) = -1 then fg (tb n b (p + 1)) else 10 * fg (tb n b (p + 1)) + fg (tb n b (p + 2))) = num at hnum ⊢
    generalize fg (tb n b (p + 1)) = x1 at hnum ⊢
    generalize ql (tb n b p) = q at hq ⊢
    by_cases c1 : q = -1
    · rw [if_pos c1]
      exact h
    · rw [if_neg c1]
      by_cases c2 : x1 = -1 ∨ ¬ num ≤ msx q
      · rw [if_pos c2]
        exact h
      · rw [if_neg c2]
        have hup : okM (upd v q.toNatClampNeg num) := by
          intro j hj
          by_cases e : j = q.toNatClampNeg
          · subst e
            rw [upd_self]
            refine ⟨hnum fun z => c2 (Or.inl z), ?_⟩
            by_cases z : num ≤ msx q
            · exact z
            · exact absurd (Or.inr z) c2
          · rw [upd_ne _ _ e]
            exact h j hj
        by_cases c3 : n ≤ pl
        · rw [if_pos c3]
          exact hup
        · rw [if_neg c3]
          by_cases c4 : ¬ tb n b pl = 59
          · rw [if_pos c4]
            exact hup
          · rw [if_neg c4]
            exact mp_ok f _ _ hup
def MR (n : Nat) (b : Nat → Int32) : Int32 × (Nat → Int32) := if n = 0 then (-1, gg_sv 2) else mp n b 61 0 (gg_sv 2)
def MF (n : Nat) (b : Nat → Int32) : Int32 := (MR n b).1
def MV (n : Nat) (b : Nat → Int32) : Nat → Int32 := if MF n b = -1 then (MR n b).2 else gg_sv 2
theorem okM_0 : okM (gg_sv 2) := by
  unfold okM
  decide +kernel
theorem MV_ok (n : Nat) (b : Nat → Int32) : okM (MV n b) := by
  unfold MV
  split
  · unfold MR
    split
    · exact okM_0
    · exact mp_ok _ _ _ okM_0
  · exact okM_0
theorem okM_M {v : Nat → Int32} (h : okM v) : dz_M v := ⟨h 0 (by decide), h 1 (by decide), h 2 (by decide), h 3 (by decide), h 4 (by decide), h 5 (by decide), h 6 (by decide)⟩
theorem okM_e {v w : Nat → Int32} (h : okM v) (e : ek7 w v) : okM w := fun j hj => by rw [e j hj]; exact h j hj
theorem MR_v {n : Nat} {b f : Nat → Int32} (h : ek7 f (gg_sv 2)) : (if n = 0 then (-1, f) else mp n b 61 0 f).1 = MF n b ∧ ek7 (if n = 0 then (-1, f) else mp n b 61 0 f).2 (MR n b).2 := by
  unfold MF MR
  split
  · exact ⟨rfl, h⟩
  · exact mp_v _ _ _ _ h
theorem MR_b {n : Nat} {b c : Nat → Int32} (h : ∀ j, j < n → b j = c j) : MR n b = MR n c := by
  unfold MR
  rw [mp_b h]
theorem MF_b {n : Nat} {b c : Nat → Int32} (h : ∀ j, j < n → b j = c j) : MF n b = MF n c := by unfold MF; rw [MR_b h]
theorem MV_b {n : Nat} {b c : Nat → Int32} (h : ∀ j, j < n → b j = c j) : MV n b = MV n c := by unfold MV; rw [MR_b h, MF_b h]
theorem mlearn_s {n : Nat} {u : gg_M} {Q : gg_M → Prop} (hn : u.1 2 1 = nI n) (hl : n ≤ 60) (h : ∀ f, ek7 f (MV n (u.1 4)) → Q (gg_wA (gg_wI u 6 1 (MF n (u.1 4))) 7 f)) : w_X4_learn 2 u Q := by
  unfold w_X4_learn w_X4_learn_c25
  refine reset_s fun f hf _ => ?_
  refine faultOf_s (n := n) (by rw [gg_wA_n _ _ (by decide)]; exact hn) hl ?_
  rw [gg_wA_1, gg_wA_n _ _ (show (4 : Nat) ≠ 7 by decide), gm_AA]
  obtain ⟨e1, e2⟩ := MR_v (n := n) (b := u.1 4) hf
  generalize (if n = 0 then (-1, f) else mp n (u.1 4) 61 0 f) = R at e1 e2
  rintro _ rfl
  rw [gi_eq, e1]
  refine ⟨fun c => ?_, fun c => reset_s fun g hg _ => ?_⟩
  · have := h R.2 (by unfold MV; rw [if_pos c]; exact e2)
    rw [gm_I, gm_AC _ _ _ (show (7 : Nat) ≠ 6 by decide), gg_wA_n _ _ (show (6 : Nat) ≠ 7 by decide)]
    exact this
  · have := h g (by unfold MV; rw [if_neg c]; exact hg)
    rw [gm_I, gm_AC _ _ _ (show (7 : Nat) ≠ 6 by decide), gg_wA_n _ _ (show (6 : Nat) ≠ 7 by decide), gm_AA]
    exact this
theorem motorNow_s {n : Nat} {u : gg_M} {b : Nat → Int32} {Q : Int32 → gg_M → Prop} (hb : b = fun j => u.1 47 (60 * 0 + j)) (hn : u.1 48 0 = nI n) (hl : n ≤ 60) (h : ∀ f p, ek7 f (MV n b) → Q (MF n b) (mmu u f p)) : w_X11_motorNow u Q := by
  unfold w_X11_motorNow w_X11_motorNow_c14
  refine mfault_s hb hn hl fun f hf p => ?_
  obtain ⟨e1, e2⟩ := MR_v (n := n) (b := b) hf
  generalize (if n = 0 then (-1, f) else mp n b 61 0 f) = R at e1 e2
  rw [e1]
  refine ⟨fun c => h R.2 p (by unfold MV; rw [if_pos c]; exact e2), fun c => plain_s fun g hg => ?_⟩
  have e3 : gg_wA (mmu u R.2 p) 49 g = mmu u g p := by
    unfold mmu
    simp only [gm_I]
    rw [gm_AC _ _ _ (show (1 : Nat) ≠ 49 by decide), gm_AA, gg_wA_n _ _ (show (1 : Nat) ≠ 49 by decide), gg_wA_n _ _ (show (1 : Nat) ≠ 49 by decide)]
  rw [e3]
  exact h g p (by unfold MV; rw [if_neg c]; exact hg)
