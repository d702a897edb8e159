/-! what the HABIT's text says -/
def gcu (u : gg_M) (c t j : Nat) (f : Nat → Int32) (z : Nat) : gg_M := gg_wI (gg_wA u c f) t j (nI z)
theorem gcu_z (u : gg_M) (c t j : Nat) (f : Nat → Int32) (z : Nat) : (gcu u c t j f z).1 t j = nI z := gi_eq _ _ _ _
theorem gcu_n (u : gg_M) {c t j : Nat} (f : Nat → Int32) (z : Nat) {a : Nat} (h1 : a ≠ t) (h2 : a ≠ c) : (gcu u c t j f z).1 a = u.1 a := by
  unfold gcu
  rw [gi_nt _ _ _ _ h1, gg_wA_n _ _ h2]
theorem gcu_o (u : gg_M) {c t j : Nat} (f : Nat → Int32) (z : Nat) (h : c ≠ t) {k : Nat} (hk : k ≠ j) : (gcu u c t j f z).1 t k = u.1 t k := by
  unfold gcu
  rw [gi_ne _ _ _ _ hk, gg_wA_n _ _ (Ne.symm h)]
theorem gcu_f (u : gg_M) {c t j : Nat} (f : Nat → Int32) (z : Nat) (h : c ≠ t) : (gcu u c t j f z).1 c = f := by
  unfold gcu
  rw [gi_nt _ _ _ _ h, gg_wA_1]
theorem gcu_w (u : gg_M) {c t j : Nat} (f : Nat → Int32) (z k : Nat) (x : Int32) (h : c ≠ t) : gg_wI (gcu u c t j f z) c k x = gcu u c t j (upd f k x) z := by
  unfold gcu
  simp only [gm_I]
  rw [gm_AC _ _ _ (Ne.symm h), gg_wA_n _ _ h, gg_wA_1, gm_AA, gg_wA_n _ _ (Ne.symm h), gg_wA_n _ _ (Ne.symm h)]
theorem upd_upd (f : Nat → Int32) (k : Nat) (x y : Int32) : upd (upd f k x) k y = upd f k y := by
  funext j
  unfold upd
  split <;> rfl
theorem gcu_a (u : gg_M) {c t j : Nat} (f : Nat → Int32) (z w : Nat) : gg_wI (gcu u c t j f z) t j (nI w) = gcu u c t j f w := by
  unfold gcu
  simp only [gm_I, gm_AA, gg_wA_1, upd_upd]
def adf (f : Nat → Int32) (z : Nat) (x : Int32) : Nat → Nat → Int32
  | 0 => f
  | k + 1 => upd (adf f z x k) (z + k) x
def hp (n : Nat) (b : Nat → Int32) : Nat → Nat → Nat → (Nat → Int32) → Int32 × Nat × (Nat → Int32)
  | 0, _, z, f => (-1, z, f)
  | fu + 1, place, z, f =>
    if fg (tb n b place) = -1 then (nI place, z, f)
    else if tb n b (place + 1) = 42 ∧ ¬ 2 ≤ fg (tb n b (place + 2)) then (nI (place + 2), z, f)
    else
      if n ≤ (if tb n b (place + 1) = 42 then place + 3 else place + 1) then
        (-1, z + (if tb n b (place + 1) = 42 then fg (tb n b (place + 2)) else 1).toNatClampNeg, adf f z (fg (tb n b place)) (if tb n b (place + 1) = 42 then fg (tb n b (place + 2)) else 1).toNatClampNeg)
      else if ¬ tb n b (if tb n b (place + 1) = 42 then place + 3 else place + 1) = 44 then
        (nI (if tb n b (place + 1) = 42 then place + 3 else place + 1), z + (if tb n b (place + 1) = 42 then fg (tb n b (place + 2)) else 1).toNatClampNeg, adf f z (fg (tb n b place)) (if tb n b (place + 1) = 42 then fg (tb n b (place + 2)) else 1).toNatClampNeg)
      else hp n b fu ((if tb n b (place + 1) = 42 then place + 3 else place + 1) + 1) (z + (if tb n b (place + 1) = 42 then fg (tb n b (place + 2)) else 1).toNatClampNeg) (adf f z (fg (tb n b place)) (if tb n b (place + 1) = 42 then fg (tb n b (place + 2)) else 1).toNatClampNeg)
theorem add_s {x m : Int32} {z k : Nat} {u : gg_M} {f : Nat → Int32} {Q : gg_M → Prop} (hm : m = nI k) (hk : k ≤ 9) (hz : z + k ≤ 90) (h : Q (gcu u 9 8 1 (adf f z x k) (z + k))) : w_X5_add x m (gcu u 9 8 1 f z) Q := by
  unfold w_X5_add w_X5_add_c2
  subst hm
  refine gl_up k (fun i s => s = (nI i, gcu u 9 8 1 (adf f z x i) (z + i))) 0 (by omega) rfl ?_
  rintro i s hi rfl k2 hk2
  unfold b_X5_add_c2 w_X5_add_c49
  rw [gcu_z]
  refine ⟨fun c => ?_, fun c => ⟨fun c2 => absurd c2 (nI_pos (by omega)), fun c2 => ⟨fun c3 => ?_, fun c3 => ⟨vp_in_nI ?_ (by decide), ?_⟩⟩⟩⟩
  · have c : nI k ≤ nI i := c
    rw [nI_leI (by omega) (by omega)] at c
    obtain rfl : i = k := by omega
    exact h
  · have c : ¬ nI k ≤ nI i := c
    have c3 : nI 90 ≤ nI (z + i) := c3
    rw [nI_leI (by omega) (by omega)] at c
    rw [nI_leI (by decide) (by omega)] at c3
    omega
  · have c : ¬ nI k ≤ nI i := c
    rw [nI_leI (by omega) (by omega)] at c
    omega
  · have c : ¬ nI k ≤ nI i := c
    rw [nI_leI (by omega) (by omega)] at c
    rintro _ rfl _ rfl
    refine hk2 (by omega) _ ?_
    show (nI i + 1, _) = _
    rw [nI_1, nI_clamp (by omega), gcu_w _ _ _ _ _ (by decide), gcu_z, nI_1, gcu_a]
    rfl
theorem i1_cl : (1 : Int32).toNatClampNeg = 1 := by decide
theorem i1_nI : (1 : Int32) = nI 1 := by decide
theorem hf_c70 {n place part z k : Nat} {u : gg_M} {f : Nat → Int32} {x m : Int32} {k4 : Int32 × Int32 × gg_M → Prop} {Q : Int32 → gg_M → Prop} (hn : u.1 3 1 = nI n) (hl : n ≤ 40) (hp : place ≤ 200) (hm : m = nI k) (hk : k ≤ 9) (hz : z + k ≤ 90)
    (h1 : n ≤ place → Q (-1) (gcu u 9 8 1 (adf f z x k) (z + k))) (h2 : ¬ n ≤ place → ¬ tb n (u.1 5) place = 44 → Q (nI place) (gcu u 9 8 1 (adf f z x k) (z + k)))
    (h3 : ¬ n ≤ place → tb n (u.1 5) place = 44 → k4 (nI (place + 1), nI (part + 1), gcu u 9 8 1 (adf f z x k) (z + k))) : w_X5_faultOf_c70 3 (nI place) (nI part) x m (gcu u 9 8 1 f z) k4 Q := by
  unfold w_X5_faultOf_c70
  refine add_s hm hk hz ?_
  have hn' : (gcu u 9 8 1 (adf f z x k) (z + k)).1 3 1 = nI n := by rw [gcu_n _ _ _ (by decide) (by decide)]; exact hn
  rw [hn']
  refine ⟨fun c => ?_, fun c => ?_⟩
  · rw [nI_ltI (by omega) (by omega)] at c
    refine byteAt_s (Or.inr rfl) hn' hl (by omega) ?_
    rw [show gg_rf 3 0 = 5 from rfl, gcu_n _ _ _ (by decide) (by decide), nI_1, nI_1]
    exact ⟨fun e => h3 (by omega) e, fun e => h2 (by omega) e⟩
  · rw [nI_ltI (by omega) (by omega)] at c
    exact h1 (by omega)
theorem fg_n {x : Int32} (h : 2 ≤ fg x) : ∃ k, k ≤ 9 ∧ fg x = nI k ∧ 2 ≤ k := by
  have hb : fg x ≤ 9 := by
    rcases fg_b x with q | q
    · rw [q]; decide
    · exact q.2
  obtain ⟨k, hk, e⟩ := nI_of2 (n := 9) (M := 9) (by decide) (fun q => by grind) hb
  refine ⟨k, hk, e, ?_⟩
  rw [e] at h
  have h : nI 2 ≤ nI k := h
  rwa [nI_leI (by decide) (by omega)] at h
theorem hfault_s {n : Nat} {u : gg_M} {Q : Int32 → gg_M → Prop} (hn : u.1 3 1 = nI n) (hl : n ≤ 40) (h0 : u.1 8 1 = nI 0)
    (h : Q (if n = 0 then (-1, 0, u.1 9) else hp n (u.1 5) 41 0 0 (u.1 9)).1 (gcu u 9 8 1 (if n = 0 then (-1, 0, u.1 9) else hp n (u.1 5) 41 0 0 (u.1 9)).2.2 (if n = 0 then (-1, 0, u.1 9) else hp n (u.1 5) 41 0 0 (u.1 9)).2.1)) : w_X5_faultOf 3 u Q := by
  unfold w_X5_faultOf w_X5_faultOf_c4
  have es : gcu u 9 8 1 (u.1 9) 0 = u := by
    unfold gcu
    rw [gm_self, ← h0, gm_I]
    have : upd (u.1 8) 1 (u.1 8 1) = u.1 8 := by
      funext j
      unfold upd
      split
      · next e => rw [e]
      · rfl
    rw [this, gm_self]
  refine gl_up 40 (fun part s => ∃ place z f, s = (nI place, nI part, gcu u 9 8 1 f z) ∧ place ≤ n ∧ 2 * part ≤ place ∧ place % 2 = 0 ∧ 4 * z ≤ 9 * place ∧ (¬ n = 0 → hp n (u.1 5) (41 - part) place z f = hp n (u.1 5) 41 0 0 (u.1 9)) ∧ (n = 0 → f = u.1 9 ∧ z = 0)) 0 (by decide) ⟨0, 0, u.1 9, by rw [es]; rfl, by omega, by omega, by omega, by omega, fun _ => rfl, fun _ => ⟨rfl, rfl⟩⟩ ?_
  rintro part s hm ⟨place, z, f, rfl, hp1, hp2, hev, hz, hmp, hv0⟩ k hk
  unfold b_X5_faultOf_c4 w_X5_faultOf_c109
  dsimp only
  have e1 : nI place + 1 = nI (place + 1) := nI_1 place
  have e2 : nI (place + 1) + 1 = nI (place + 2) := nI_1 (place + 1)
  have e3 : nI (place + 1) + 2 = nI (place + 3) := nI_add (place + 1) 2
  rw [e1, e2, e3]
  have hn' : (gcu u 9 8 1 f z).1 3 1 = nI n := by rw [gcu_n _ _ _ (by decide) (by decide)]; exact hn
  have h5 : (gcu u 9 8 1 f z).1 5 = u.1 5 := gcu_n _ _ _ (by decide) (by decide)
  refine ⟨fun c => ?_, fun c => ⟨fun c2 => ?_, fun c2 => ?_⟩⟩
  · have c : nI 40 ≤ nI part := c
    rw [nI_leI (by decide) (by omega)] at c
    omega
  · have c2 : (gcu u 9 8 1 f z).1 3 1 ≤ nI 0 := c2
    rw [hn', nI_leI (by omega) (by decide)] at c2
    have e0 : n = 0 := by omega
    rw [if_pos e0] at h
    obtain ⟨rfl, rfl⟩ := hv0 e0
    exact h
  · have c2 : ¬ (gcu u 9 8 1 f z).1 3 1 ≤ nI 0 := c2
    rw [hn', nI_leI (by omega) (by decide)] at c2
    have e0 : ¬ n = 0 := by omega
    rw [if_neg e0, ← hmp e0, show 41 - part = (40 - part) + 1 by omega] at h
    have hm2 := hmp e0
    rw [show 41 - part = (40 - part) + 1 by omega] at hm2
    rw [hp] at h hm2
    refine figureAt_s (Or.inr rfl) hn' hl (by omega) ?_
    rw [show gg_rf 3 0 = 5 from rfl, h5]
    have hx0b := fg_ge (n := n) (b := u.1 5) (k := place)
    generalize hx0 : fg (tb n (u.1 5) place) = x0 at h hm2 hx0b
    refine ⟨fun c3 => ?_, fun c3 => by rw [if_pos c3] at h; exact h⟩
    have hpn := hx0b c3
    clear hx0b
    rw [if_neg c3] at h hm2
    refine byteAt_s (Or.inr rfl) hn' hl (by omega) ?_
    rw [show gg_rf 3 0 = 5 from rfl, h5]
    generalize hx1 : tb n (u.1 5) (place + 1) = x1 at h hm2
    refine ⟨fun c4 => ?_, fun c4 => ?_⟩
    · rw [if_neg (fun q => c4 q.1), if_neg c4, if_neg c4, i1_cl] at h hm2
      refine hf_c70 (k := 1) hn hl (by omega) i1_nI (by decide) (by omega) (fun q => ?_) (fun q1 q2 => ?_) (fun q1 q2 => ?_)
      · rw [if_pos q] at h
        exact h
      · rw [if_neg q1, if_pos q2] at h
        exact h
      · rw [if_neg q1, if_neg (fun w => w q2)] at hm2
        exact hk (by omega) _ ⟨place + 1 + 1, z + 1, _, rfl, by omega, by omega, by omega, by omega, fun _ => by rw [show 41 - (part + 1) = 40 - part by omega]; exact hm2, fun w => absurd w e0⟩
    · refine figureAt_s (Or.inr rfl) hn' hl (by omega) ?_
      rw [show gg_rf 3 0 = 5 from rfl, h5]
      have hx2b := fg_ge (n := n) (b := u.1 5) (k := place + 2)
      have hx2n := fg_n (x := tb n (u.1 5) (place + 2))
      generalize hx2 : fg (tb n (u.1 5) (place + 2)) = x2 at h hm2 hx2b hx2n
      refine ⟨fun c5 => ?_, fun c5 => ?_⟩
      · obtain ⟨m, hm9, em, hm2l⟩ := hx2n c5
        have hp3 := hx2b (fun q => by rw [q] at c5; exact absurd c5 (by decide))
        clear hx2b hx2n
        rw [if_neg (fun q => q.2 c5), if_pos c4, if_pos c4] at h hm2
        have ecl : x2.toNatClampNeg = m := by rw [em]; exact nI_clamp (by omega)
        rw [ecl] at h hm2
        refine hf_c70 (k := m) hn hl (by omega) em hm9 (by omega) (fun q => ?_) (fun q1 q2 => ?_) (fun q1 q2 => ?_)
        · rw [if_pos q] at h
          exact h
        · rw [if_neg q1, if_pos q2] at h
          exact h
        · rw [if_neg q1, if_neg (fun w => w q2)] at hm2
          exact hk (by omega) _ ⟨place + 3 + 1, z + m, _, rfl, by omega, by omega, by omega, by omega, fun _ => by rw [show 41 - (part + 1) = 40 - part by omega]; exact hm2, fun w => absurd w e0⟩
      · rw [if_pos ⟨c4, c5⟩] at h
        exact h
/-! the reference reads it so too -/
theorem fg_in {x : Int32} : (if 0 ≤ x - 48 ∧ x - 48 ≤ 9 then (1 : Int32) else 0) = if fg x = -1 then 0 else 1 := by
  unfold fg
  grind
theorem fg_in2 {x : Int32} : (if 2 ≤ x - 48 ∧ x - 48 ≤ 9 then (1 : Int32) else 0) = if 2 ≤ fg x then 1 else 0 := by
  unfold fg
  grind
theorem fg_v {x : Int32} (h : ¬ fg x = -1) : x - 48 = fg x := by
  unfold fg at h ⊢
  grind
theorem hm_c97 {n place z k : Nat} {u : gg_M} {f b : Nat → Int32} {x m : Int32} {k7 : Int32 × gg_M → Prop} {Q : Int32 → gg_M → Prop} (hb : b = fun j => u.1 47 (60 * 1 + j)) (hn : u.1 48 1 = nI n) (hl : n ≤ 40) (hp : place ≤ n) (hm : m = nI k) (hk : k ≤ 9) (hz : z + k ≤ 90)
    (h1 : n = place → Q (-1) (gcu u 50 1 4 (adf f z x k) (z + k))) (h2 : ¬ n = place → ¬ tb n b place = 44 → Q (nI place) (gcu u 50 1 4 (adf f z x k) 0))
    (h3 : ¬ n = place → tb n b place = 44 → k7 (nI (place + 1), gcu u 50 1 4 (adf f z x k) (z + k))) : w_X11_habitNow_c97 (nI place) x m (gcu u 50 1 4 f z) k7 Q := by
  unfold w_X11_habitNow_c97 w_X11_habitNow_c100
  subst hm
  refine gl_up k (fun i s => s = (nI i, gcu u 50 1 4 (adf f z x i) (z + i))) 0 (by omega) rfl ?_
  rintro i s hi rfl k100 hk100
  unfold b_X11_habitNow_c100
  dsimp only
  have hn' : ∀ f z, (gcu u 50 1 4 f z).1 48 1 = nI n := fun f z => by rw [gcu_n _ _ _ (by decide) (by decide)]; exact hn
  rw [gcu_z, hn']
  refine ⟨fun c => ⟨fun c2 => ?_, fun c2 => ?_⟩, fun c => ⟨?_, ?_⟩⟩
  · rw [nI_leI (by omega) (by omega)] at c
    rw [nI_eq (by omega) (by omega)] at c2
    obtain rfl : i = k := by omega
    refine mbyteAt_s (t := 1) (n := n) i1_nI (by decide) (hn' _ _) (by omega) (by omega) ?_
    rw [gcu_n _ _ _ (by decide) (by decide), ← hb, nI_1]
    refine ⟨fun e => h3 (Ne.symm c2) e, fun e => ?_⟩
    rintro _ rfl
    have := h2 (Ne.symm c2) e
    rwa [← gcu_a _ _ (z + i) 0] at this
  · rw [nI_leI (by omega) (by omega)] at c
    rw [nI_eq (by omega) (by omega)] at c2
    obtain rfl : i = k := by omega
    exact h1 c2.symm
  · rw [nI_leI (by omega) (by omega)] at c
    exact vp_in_nI (by omega) (by decide)
  · rw [nI_leI (by omega) (by omega)] at c
    rintro _ rfl _ rfl
    refine hk100 (by omega) _ ?_
    rw [nI_1, nI_clamp (by omega), gcu_w _ _ _ _ _ (by decide), gcu_z, nI_1, gcu_a]
    rfl
theorem hnow_s {n : Nat} {u : gg_M} {b : Nat → Int32} {Q : Int32 → gg_M → Prop} (hb : b = fun j => u.1 47 (60 * 1 + j)) (hn : u.1 48 1 = nI n) (hl : n ≤ 40)
    (h : Q (if n = 0 then (-1, 0, u.1 50) else hp n b 41 0 0 (u.1 50)).1 (gcu u 50 1 4 (if n = 0 then (-1, 0, u.1 50) else hp n b 41 0 0 (u.1 50)).2.2 (if (if n = 0 then (-1, 0, u.1 50) else hp n b 41 0 0 (u.1 50)).1 = -1 then (if n = 0 then (-1, 0, u.1 50) else hp n b 41 0 0 (u.1 50)).2.1 else 0))) : w_X11_habitNow u Q := by
  unfold w_X11_habitNow
  rintro _ rfl
  have es : gg_wI u 1 4 0 = gcu u 50 1 4 (u.1 50) 0 := by
    unfold gcu
    rw [gm_self]
    rfl
  rw [es]
  unfold w_X11_habitNow_c7
  refine gl_up 40 (fun part s => ∃ place z f, s = (nI place, gcu u 50 1 4 f z) ∧ place ≤ n ∧ 2 * part ≤ place ∧ place % 2 = 0 ∧ 4 * z ≤ 9 * place ∧ (¬ n = 0 → hp n b (41 - part) place z f = hp n b 41 0 0 (u.1 50)) ∧ (n = 0 → f = u.1 50 ∧ z = 0)) 0 (by decide) ⟨0, 0, u.1 50, rfl, by omega, by omega, by omega, by omega, fun _ => rfl, fun _ => ⟨rfl, rfl⟩⟩ ?_
  rintro part s hm ⟨place, z, f, rfl, hp1, hp2, hev, hz, hmp, hv0⟩ k hk
  have hn' : ∀ f z, (gcu u 50 1 4 f z).1 48 1 = nI n := fun f z => by rw [gcu_n _ _ _ (by decide) (by decide)]; exact hn
  have hb' : ∀ f z, (fun j => (gcu u 50 1 4 f z).1 47 (60 * 1 + j)) = b := fun f z => by rw [gcu_n _ _ _ (by decide) (by decide), hb]
  have main : ¬ n = 0 → w_X11_habitNow_c21 (nI place) (gcu u 50 1 4 f z) k Q := by
    intro e0
    rw [if_neg e0, ← hmp e0, show 41 - part = (40 - part) + 1 by omega] at h
    have hm2 := hmp e0
    rw [show 41 - part = (40 - part) + 1 by omega] at hm2
    rw [hp] at h hm2
    have hQ : ∀ (x : Int32) (z1 : Nat) (f1 : Nat → Int32), ¬ x = -1 → Q x (gcu u 50 1 4 f1 (if x = -1 then z1 else 0)) → Q x (gcu u 50 1 4 f1 0) := fun x z1 f1 hx hq => by rwa [if_neg hx] at hq
    have hne : ∀ p : Nat, p < 1000 → ¬ nI p = -1 := fun p hp q => by
      have := nI_pos (n := p) (by omega)
      rw [q] at this
      exact this (by decide)
    unfold w_X11_habitNow_c21
    have e1 : nI place + 1 = nI (place + 1) := nI_1 place
    have e2 : nI (place + 1) + 1 = nI (place + 2) := nI_1 (place + 1)
    have e3 : nI (place + 2) + 1 = nI (place + 3) := nI_1 (place + 2)
    rw [e1, e2, e3]
    refine mbyteAt_s (t := 1) (n := n) i1_nI (by decide) (hn' _ _) (by omega) (by omega) ?_
    rw [hb']
    have hx0b := fg_ge (n := n) (b := b) (k := place)
    have hx0v := fg_v (x := tb n b place)
    rintro v12 ev12
    refine p_X11_in ?_
    rw [ev12, fg_in]
    generalize hx0 : fg (tb n b place) = x0 at h hm2 hx0b hx0v ⊢
    refine ⟨fun c3 => ?_, fun c3 => ?_⟩
    · have c3 : ¬ x0 = -1 := fun q => c3 (by rw [if_pos q])
      have hpn := hx0b c3
      rw [hx0v c3]
      clear hx0b hx0v
      rw [if_neg c3] at h hm2
      refine mbyteAt_s (t := 1) (n := n) i1_nI (by decide) (hn' _ _) (by omega) (by omega) ?_
      rw [hb']
      generalize hx1 : tb n b (place + 1) = x1 at h hm2
      refine ⟨fun c4 => ?_, fun c4 => ?_⟩
      · rw [if_neg (fun q => c4 q.1), if_neg c4, if_neg c4, i1_cl] at h hm2
        refine hm_c97 (k := 1) hb hn hl (by omega) i1_nI (by decide) (by omega) (fun q => ?_) (fun q1 q2 => ?_) (fun q1 q2 => ?_)
        · rw [if_pos (by omega)] at h
          exact h
        · rw [if_neg (by omega), if_pos q2] at h
          exact hQ _ _ _ (hne _ (by omega)) h
        · rw [if_neg (by omega), if_neg (fun w => w q2)] at hm2
          exact hk (by omega) _ ⟨place + 1 + 1, z + 1, _, rfl, by omega, by omega, by omega, by omega, fun _ => by rw [show 41 - (part + 1) = 40 - part by omega]; exact hm2, fun w => absurd w e0⟩
      · refine mbyteAt_s (t := 1) (n := n) i1_nI (by decide) (hn' _ _) (by omega) (by omega) ?_
        rw [hb']
        have hx2b := fg_ge (n := n) (b := b) (k := place + 2)
        have hx2n := fg_n (x := tb n b (place + 2))
        have hx2v := fg_v (x := tb n b (place + 2))
        rintro v21 ev21
        refine p_X11_in ?_
        rw [ev21, fg_in2]
        generalize hx2 : fg (tb n b (place + 2)) = x2 at h hm2 hx2b hx2n hx2v ⊢
        refine ⟨fun c5 => ?_, fun c5 => ?_⟩
        · have c5 : 2 ≤ x2 := by
            by_cases q : 2 ≤ x2
            · exact q
            · rw [if_neg q] at c5
              exact absurd rfl c5
          obtain ⟨m, hm9, em, hm2l⟩ := hx2n c5
          have hx2ne : ¬ x2 = -1 := fun q => by rw [q] at c5; exact absurd c5 (by decide)
          have hp3 := hx2b hx2ne
          rw [hx2v hx2ne]
          clear hx2b hx2n hx2v
          rw [if_neg (fun q => q.2 c5), if_pos c4, if_pos c4] at h hm2
          have ecl : x2.toNatClampNeg = m := by rw [em]; exact nI_clamp (by omega)
          rw [ecl] at h hm2
          refine hm_c97 (k := m) hb hn hl (by omega) em hm9 (by omega) (fun q => ?_) (fun q1 q2 => ?_) (fun q1 q2 => ?_)
          · rw [if_pos (by omega)] at h
            exact h
          · rw [if_neg (by omega), if_pos q2] at h
            exact hQ _ _ _ (hne _ (by omega)) h
          · rw [if_neg (by omega), if_neg (fun w => w q2)] at hm2
            exact hk (by omega) _ ⟨place + 3 + 1, z + m, _, rfl, by omega, by omega, by omega, by omega, fun _ => by rw [show 41 - (part + 1) = 40 - part by omega]; exact hm2, fun w => absurd w e0⟩
        · have c5 : ¬ 2 ≤ x2 := fun q => by rw [if_pos q] at c5; exact absurd c5 (by decide)
          rw [if_pos ⟨c4, c5⟩] at h
          rintro _ rfl
          have := hQ _ _ _ (hne _ (by omega)) h
          rwa [← gcu_a _ _ z 0] at this
    · have c3 : x0 = -1 := by
        by_cases q : x0 = -1
        · exact q
        · rw [if_neg q] at c3
          exact absurd c3 (by decide)
      rw [if_pos c3] at h
      rintro _ rfl
      have := hQ _ _ _ (hne _ (by omega)) h
      rwa [← gcu_a _ _ z 0] at this
  unfold b_X11_habitNow_c7
  dsimp only
  rw [hn']
  refine ⟨fun c => ?_, fun c => ⟨fun c2 => ?_, fun c2 => ?_⟩⟩
  · rw [nI_ltI (by omega) (by omega)] at c
    exact main (by omega)
  · have c2 : nI place ≤ nI 0 := c2
    rw [nI_ltI (by omega) (by omega)] at c
    rw [nI_leI (by omega) (by decide)] at c2
    have e0 : n = 0 := by omega
    rw [if_pos e0] at h
    obtain ⟨rfl, rfl⟩ := hv0 e0
    exact h
  · have c2 : ¬ nI place ≤ nI 0 := c2
    rw [nI_leI (by omega) (by decide)] at c2
    exact main (by omega)
