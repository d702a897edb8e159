/-! pure: memory laws -/
theorem gm_AA (u : gg_M) (t : Nat) (f g : Nat → Int32) : gg_wA (gg_wA u t f) t g = gg_wA u t g := by
  unfold gg_wA
  refine Prod.ext (funext fun a => ?_) rfl
  by_cases h : a = t <;> simp [h]
theorem gm_self (u : gg_M) (t : Nat) : gg_wA u t (u.1 t) = u := by
  unfold gg_wA
  refine Prod.ext (funext fun a => ?_) rfl
  by_cases h : a = t <;> simp [h]
theorem gm_I (u : gg_M) (t j : Nat) (x : Int32) : gg_wI u t j x = gg_wA u t (upd (u.1 t) j x) := rfl
theorem gm_A2 (u : gg_M) (t : Nat) (f : Nat → Int32) : (gg_wA u t f).2 = u.2 := rfl
theorem gm_B1 (u : gg_M) (t : Nat) (f : Nat → Int64) : (gg_wB u t f).1 = u.1 := rfl
theorem gm_L (u : gg_M) (t j : Nat) (x : Int64) : gg_wL u t j x = gg_wB u t (vp_updL (u.2 t) j x) := rfl
theorem gm_BB (u : gg_M) (t : Nat) (f g : Nat → Int64) : gg_wB (gg_wB u t f) t g = gg_wB u t g := by
  unfold gg_wB
  refine Prod.ext rfl (funext fun a => ?_)
  by_cases h : a = t <;> simp [h]
theorem upd_self (f : Nat → Int32) (k : Nat) (x : Int32) : upd f k x k = x := if_pos rfl
theorem upd_ne (f : Nat → Int32) {k j : Nat} (x : Int32) (h : j ≠ k) : upd f k x j = f j := if_neg h
theorem p_X10_isBelow {a b : Int32} {u : gg_M} {Q : Int32 → gg_M → Prop} (h : Q (if 0 ≤ a ∧ a < b then 1 else 0) u) : w_X10_isBelow a b u Q := by
  unfold w_X10_isBelow w_X10_isBelow_c13 w_X10_isBelow_c14
  grind
theorem p_max {a b : Int32} {u : gg_M} {Q : Int32 → gg_M → Prop} (h : Q (if a < b then b else a) u) : w_J9_max_7cf53 a b u Q := by
  unfold w_J9_max_7cf53 w_J9_max_7cf53_c10
  grind
theorem p_min {a b : Int32} {u : gg_M} {Q : Int32 → gg_M → Prop} (h : Q (if b < a then b else a) u) : w_J9_min_7cf53 a b u Q := by
  unfold w_J9_min_7cf53 w_J9_min_7cf53_c10
  grind
def dz_fat (mv st : Nat → Int32) : Int32 := mv 1 + st 0 / 8 - st 3 / 3 - (if st 6 &&& 2 = 0 then 0 else 5)
def dz_push (mv st : Nat → Int32) : Int32 := mv 0 + st 4 / 6 - (if st 6 &&& 1 = 0 then 0 else 4)
def dz_time (mv st : Nat → Int32) : Int32 := mv 2 - (if st 6 &&& 8 = 0 then 0 else 6)
def dz_sg (mix fat push time : Int32) : Int32 :=
  if 4 ≤ mix ∧ mix ≤ 9 ∧ 4 ≤ fat ∧ 5 ≤ push then (if 13 < time then 3 else if time < 7 then 1 else 2)
  else if 3 ≤ mix ∧ mix ≤ 10 ∧ 3 ≤ fat ∧ 4 ≤ push then 1 else 0
theorem p_signOf_c149 {a2 a3 a4 : Int32} {u : gg_M} {Q : Int32 → gg_M → Prop} (h : Q (if 3 ≤ a2 ∧ a2 ≤ 10 ∧ 3 ≤ a3 ∧ 4 ≤ a4 then 1 else 0) u) : w_X7_signOf_c149 a2 a3 a4 u Q := by
  unfold w_X7_signOf_c149 w_X7_signOf_c175 w_X7_signOf_c176
  grind
theorem p_signOf_c100 {a2 a3 a4 z0 z1 : Int32} {u : gg_M} {Q : Int32 → gg_M → Prop} (h : Q (dz_sg a2 a3 a4 (z0 - z1)) u) : w_X7_signOf_c100 a2 a3 a4 z0 z1 u Q := by
  unfold w_X7_signOf_c100 w_X7_signOf_c148
  unfold dz_sg at h
  have key := @p_signOf_c149 a2 a3 a4 u Q
  intro v5 e5
  subst e5
  grind
theorem p_signOf {t : Nat} {mix : Int32} {u : gg_M} {Q : Int32 → gg_M → Prop} (h : Q (dz_sg mix (dz_fat (u.1 7) (u.1 t)) (dz_push (u.1 7) (u.1 t)) (dz_time (u.1 7) (u.1 t))) u) : w_X7_signOf t mix u Q := by
  unfold w_X7_signOf w_X7_signOf_c61 w_X7_signOf_c79
  unfold dz_fat dz_push dz_time at h
  refine fun v16 e16 v17 e17 v18 e18 => ?_
  subst e16 e17 e18
  constructor <;> intro c1 v14 e14 <;> subst e14 <;> constructor <;> intro c2 v12 e12 <;> subst e12 <;> constructor <;> intro c3 <;> apply p_signOf_c100 <;> simpa only [c1, c2, c3, if_true, if_false] using h
/-! an act, done to a state of eight numbers -/
def dz_mk (st : Nat → Int32) (b l w v m s t r : Int32) : Nat → Int32 := fun j => if j = 0 then b else if j = 1 then l else if j = 2 then w else if j = 3 then v else if j = 4 then m else if j = 5 then s else if j = 6 then t else if j = 7 then r else st j
def dz_drawn (mv st : Nat → Int32) (c : Int32) : Int32 := if ¬ (st 6 &&& 4) = 0 ∨ (¬ (st 6 &&& 16) = 0 ∧ ¬ 6 ≤ st 4) then 0 else mv 3 + 2 * c
def dz_mix (mv st : Nat → Int32) (c : Int32) : Int32 := dz_drawn mv st c + st 2 / 4 + st 5 - dz_drawn mv st c * mv 4 / 10
def dz_wall (mv st : Nat → Int32) (c : Int32) : Int32 := st 2 + (dz_drawn mv st c * mv 4 / 10 - st 2 / 4)
def dz_max (a b : Int32) : Int32 := if a < b then b else a
def dz_min (a b : Int32) : Int32 := if b < a then b else a
def dz_ts (mv st : Nat → Int32) (c : Int32) : Int32 := dz_sg (dz_mix mv st c) (dz_fat mv st) (dz_push mv st) (dz_time mv st)
def dz_tn (mv st : Nat → Int32) (c : Int32) : Nat → Int32 :=
  if dz_ts mv st c = 2 then dz_mk st (st 0) (st 1) (dz_wall mv st c) (st 3) (st 4) 0 (st 6) 1
  else dz_mk st (st 0) (st 1) (dz_wall mv st c) (dz_min 99 (st 3 + dz_max 0 (dz_mix mv st c - 9))) (dz_min 20 (st 4 + if dz_ts mv st c = 0 then 1 else 2)) 0 (st 6) (st 7)
theorem ext8 {f g : Nat → Int32} (h : ∀ j, j < 8 → f j = g j) (hr : ∀ j, 8 ≤ j → f j = g j) : f = g := by
  funext j
  rcases Nat.lt_or_ge j 8 with q | q
  · exact h j q
  · exact hr j q
theorem dz_mk_hi (st : Nat → Int32) (b l w v m s t r : Int32) {j : Nat} (h : 8 ≤ j) : dz_mk st b l w v m s t r j = st j := by
  unfold dz_mk
  repeat rw [if_neg (by omega)]
theorem q_of {Q : Int32 → gg_M → Prop} {x : Int32} {u : gg_M} {t : Nat} {f g : Nat → Int32} (h : Q x (gg_wA u t g)) (e : f = g) : Q x (gg_wA u t f) := e ▸ h
theorem q_of2 {Q : Int32 → gg_M → Prop} {x y : Int32} {u : gg_M} {t : Nat} {f g : Nat → Int32} (h : Q y (gg_wA u t g)) (e1 : x = y) (e : f = g) : Q x (gg_wA u t f) := e ▸ e1 ▸ h
theorem lt8 {P : Nat → Prop} (h0 : P 0) (h1 : P 1) (h2 : P 2) (h3 : P 3) (h4 : P 4) (h5 : P 5) (h6 : P 6) (h7 : P 7) : ∀ j, j < 8 → P j
  | 0, _ => h0
  | 1, _ => h1
  | 2, _ => h2
  | 3, _ => h3
  | 4, _ => h4
  | 5, _ => h5
  | 6, _ => h6
  | 7, _ => h7
  | j + 8, h => absurd h (by omega)
theorem p_turn_c185 {a9 z1 z2 z3 : Int32} {t : Nat} {u : gg_M} {Q : Int32 → gg_M → Prop} (h : Q a9 (gg_wI u t 4 (dz_min z1 (z2 + z3)))) : w_X7_turn_c185 a9 t z1 z2 z3 u Q := by
  unfold w_X7_turn_c185
  refine p_min ?_
  rintro _ rfl
  exact h
theorem p_turn_c64 {t : Nat} {d c : Int32} {u : gg_M} {Q : Int32 → gg_M → Prop} (ht : (7 : Nat) ≠ t) (hd : d = dz_drawn (u.1 7) (u.1 t) c) (h : Q (dz_ts (u.1 7) (u.1 t) c) (gg_wA u t (dz_tn (u.1 7) (u.1 t) c))) : w_X7_turn_c64 t d u Q := by
  unfold w_X7_turn_c64
  rintro v4 e4 v5 e5 v6 e6 _ rfl _ rfl
  have e6 : v6 = dz_mix (u.1 7) (u.1 t) c := by rw [e6, e5, e4, hd]; rfl
  have e2 : u.1 t 2 + (v4 - v5) = dz_wall (u.1 7) (u.1 t) c := by rw [e5, e4, hd]; rfl
  rw [e2]
  refine p_signOf ?_
  simp only [gm_I, gm_AA, gg_wA_1, gg_wA_n u _ ht]
  have e7 : dz_sg v6 (dz_fat (u.1 7) (upd (upd (u.1 t) 2 (dz_wall (u.1 7) (u.1 t) c)) 5 0)) (dz_push (u.1 7) (upd (upd (u.1 t) 2 (dz_wall (u.1 7) (u.1 t) c)) 5 0)) (dz_time (u.1 7) (upd (upd (u.1 t) 2 (dz_wall (u.1 7) (u.1 t) c)) 5 0)) = dz_ts (u.1 7) (u.1 t) c := by
    rw [e6]; rfl
  rw [e7]
  refine ⟨fun c1 => p_max (p_min ?_), fun c1 => ?_⟩
  · rintro _ rfl
    have hn : dz_tn (u.1 7) (u.1 t) c = dz_mk (u.1 t) (u.1 t 0) (u.1 t 1) (dz_wall (u.1 7) (u.1 t) c) (dz_min 99 (u.1 t 3 + dz_max 0 (dz_mix (u.1 7) (u.1 t) c - 9))) (dz_min 20 (u.1 t 4 + if dz_ts (u.1 7) (u.1 t) c = 0 then 1 else 2)) 0 (u.1 t 6) (u.1 t 7) := if_neg c1
    rw [hn] at h
    refine ⟨fun c2 => p_turn_c185 ?_, fun c2 => p_turn_c185 ?_⟩
    · simp only [gm_I, gm_AA, gg_wA_1, if_neg c2] at h ⊢
      refine q_of h (ext8 (lt8 rfl rfl rfl (by rw [e6]; rfl) rfl rfl rfl rfl) (fun j hj => ?_))
      rw [dz_mk_hi _ _ _ _ _ _ _ _ _ hj, upd_ne _ _ (by omega), upd_ne _ _ (by omega), upd_ne _ _ (by omega), upd_ne _ _ (by omega)]
    · simp only [gm_I, gm_AA, gg_wA_1, if_pos c2] at h ⊢
      refine q_of h (ext8 (lt8 rfl rfl rfl (by rw [e6]; rfl) rfl rfl rfl rfl) (fun j hj => ?_))
      rw [dz_mk_hi _ _ _ _ _ _ _ _ _ hj, upd_ne _ _ (by omega), upd_ne _ _ (by omega), upd_ne _ _ (by omega), upd_ne _ _ (by omega)]
  · rintro _ rfl
    have hn : dz_tn (u.1 7) (u.1 t) c = dz_mk (u.1 t) (u.1 t 0) (u.1 t 1) (dz_wall (u.1 7) (u.1 t) c) (u.1 t 3) (u.1 t 4) 0 (u.1 t 6) 1 := if_pos c1
    rw [hn] at h
    refine q_of h (ext8 (lt8 rfl rfl rfl rfl rfl rfl rfl rfl) (fun j hj => ?_))
    rw [dz_mk_hi _ _ _ _ _ _ _ _ _ hj, upd_ne _ _ (by omega), upd_ne _ _ (by omega), upd_ne _ _ (by omega)]
theorem p_turn {t : Nat} {c : Int32} {u : gg_M} {Q : Int32 → gg_M → Prop} (ht : (7 : Nat) ≠ t) (h : Q (dz_ts (u.1 7) (u.1 t) c) (gg_wA u t (dz_tn (u.1 7) (u.1 t) c))) : w_X7_turn t c u Q := by
  unfold w_X7_turn w_X7_turn_c14 w_X7_turn_c38 w_X7_turn_c39 w_X7_turn_c50
  have key : ∀ d, d = dz_drawn (u.1 7) (u.1 t) c → w_X7_turn_c64 t d u Q := fun d hd => p_turn_c64 ht hd h
  unfold dz_drawn at key
  grind
def dz_tds (st : Nat → Int32) (a : Int32) : Int32 := if a = 5 then (if st 3 ≤ 0 then 6 else 5) else 0
def dz_tdn (mv st : Nat → Int32) (a : Int32) : Nat → Int32 :=
  if a = 4 then dz_mk st (dz_min (mv 5) (st 0 + 1)) (st 1) (st 2) (dz_max 0 (st 3 - 4)) (dz_max 0 (st 4 - 1)) (st 5) (st 6) (st 7)
  else if a = 5 then dz_mk st (st 0) (st 1) (st 2) 0 (st 4) (st 5) (st 6) (st 7)
  else if a = 6 then dz_mk st (st 0) (st 1) (st 2) (st 3) (dz_min 20 (st 4 + 6)) (st 5) (st 6) (st 7)
  else if a = 7 then dz_mk st (st 0) (st 1) (st 2) (st 3) (st 4) 5 (st 6) (st 7)
  else if a = 8 then dz_mk st (st 0) (st 1) (st 2) (st 3) (st 4) (st 5) (st 6 &&& (-3)) (st 7)
  else dz_mk st (st 0) (st 1) (st 2) (st 3) (st 4) (st 5) (st 6 &&& (-9)) (st 7)
theorem dz_six {a : Int32} (h0 : 4 ≤ a) (h1 : a < 10) : a = 4 ∨ a = 5 ∨ a = 6 ∨ a = 7 ∨ a = 8 ∨ a = 9 := by grind
theorem dz_td4 (mv st : Nat → Int32) : dz_tdn mv st 4 = dz_mk st (dz_min (mv 5) (st 0 + 1)) (st 1) (st 2) (dz_max 0 (st 3 - 4)) (dz_max 0 (st 4 - 1)) (st 5) (st 6) (st 7) := by simp [dz_tdn]
theorem dz_td5 (mv st : Nat → Int32) : dz_tdn mv st 5 = dz_mk st (st 0) (st 1) (st 2) 0 (st 4) (st 5) (st 6) (st 7) := by simp [dz_tdn]
theorem dz_td6 (mv st : Nat → Int32) : dz_tdn mv st 6 = dz_mk st (st 0) (st 1) (st 2) (st 3) (dz_min 20 (st 4 + 6)) (st 5) (st 6) (st 7) := by simp [dz_tdn]
theorem dz_td7 (mv st : Nat → Int32) : dz_tdn mv st 7 = dz_mk st (st 0) (st 1) (st 2) (st 3) (st 4) 5 (st 6) (st 7) := by simp [dz_tdn]
theorem dz_td8 (mv st : Nat → Int32) : dz_tdn mv st 8 = dz_mk st (st 0) (st 1) (st 2) (st 3) (st 4) (st 5) (st 6 &&& (-3)) (st 7) := by simp [dz_tdn]
theorem dz_td9 (mv st : Nat → Int32) : dz_tdn mv st 9 = dz_mk st (st 0) (st 1) (st 2) (st 3) (st 4) (st 5) (st 6 &&& (-9)) (st 7) := by simp [dz_tdn]
theorem dz_ts5 (st : Nat → Int32) : dz_tds st 5 = if st 3 ≤ 0 then 6 else 5 := by simp [dz_tds]
theorem dz_tsn (st : Nat → Int32) {a : Int32} (h : ¬ a = 5) : dz_tds st a = 0 := by simp [dz_tds, h]
theorem p_tend {t : Nat} {a : Int32} {u : gg_M} {Q : Int32 → gg_M → Prop} (ht : (7 : Nat) ≠ t) (h0 : 4 ≤ a) (h1 : a < 10) (h : Q (dz_tds (u.1 t) a) (gg_wA u t (dz_tdn (u.1 7) (u.1 t) a))) : w_X7_tend t a u Q := by
  unfold w_X7_tend
  rcases dz_six h0 h1 with rfl | rfl | rfl | rfl | rfl | rfl
  · refine ⟨fun _ => p_max ?_, fun q => absurd q (by decide), fun q => absurd q (by decide), fun q => absurd q (by decide), fun q => absurd q (by decide), fun q => absurd q (by decide), fun q => absurd q (by decide)⟩
    rw [dz_tsn _ (by decide), dz_td4] at h
    rintro _ rfl
    refine p_max ?_
    rintro _ rfl
    refine p_min ?_
    rintro _ rfl
    simp only [gm_I, gm_AA, gg_wA_1, gg_wA_n u _ ht]
    refine q_of h (ext8 (lt8 rfl rfl rfl rfl rfl rfl rfl rfl) (fun j hj => ?_))
    rw [dz_mk_hi _ _ _ _ _ _ _ _ _ hj, upd_ne _ _ (by omega), upd_ne _ _ (by omega), upd_ne _ _ (by omega)]
  · refine ⟨fun q => absurd q (by decide), fun _ => ?_, fun q => absurd q (by decide), fun q => absurd q (by decide), fun q => absurd q (by decide), fun q => absurd q (by decide), fun q => absurd q (by decide)⟩
    rw [dz_ts5, dz_td5] at h
    unfold w_X7_dry w_X7_dry_c13
    have e : upd (u.1 t) 3 0 = dz_mk (u.1 t) (u.1 t 0) (u.1 t 1) (u.1 t 2) 0 (u.1 t 4) (u.1 t 5) (u.1 t 6) (u.1 t 7) := ext8 (lt8 rfl rfl rfl rfl rfl rfl rfl rfl) (fun j hj => by
      rw [dz_mk_hi _ _ _ _ _ _ _ _ _ hj, upd_ne _ _ (by omega)])
    refine ⟨fun c1 => ?_, fun c1 => ?_⟩
    · rintro _ rfl
      rw [if_pos c1] at h
      exact q_of h e
    · rintro _ rfl
      rw [if_neg c1] at h
      exact q_of h e
  · refine ⟨fun q => absurd q (by decide), fun q => absurd q (by decide), fun _ => p_min ?_, fun q => absurd q (by decide), fun q => absurd q (by decide), fun q => absurd q (by decide), fun q => absurd q (by decide)⟩
    rw [dz_tsn _ (by decide), dz_td6] at h
    rintro _ rfl
    refine q_of h (ext8 (lt8 rfl rfl rfl rfl rfl rfl rfl rfl) (fun j hj => ?_))
    rw [dz_mk_hi _ _ _ _ _ _ _ _ _ hj, upd_ne _ _ (by omega)]
  · refine ⟨fun q => absurd q (by decide), fun q => absurd q (by decide), fun q => absurd q (by decide), fun _ => ?_, fun q => absurd q (by decide), fun q => absurd q (by decide), fun q => absurd q (by decide)⟩
    rw [dz_tsn _ (by decide), dz_td7] at h
    rintro _ rfl
    refine q_of h (ext8 (lt8 rfl rfl rfl rfl rfl rfl rfl rfl) (fun j hj => ?_))
    rw [dz_mk_hi _ _ _ _ _ _ _ _ _ hj, upd_ne _ _ (by omega)]
  · refine ⟨fun q => absurd q (by decide), fun q => absurd q (by decide), fun q => absurd q (by decide), fun q => absurd q (by decide), fun _ => ?_, fun q => absurd q (by decide), fun q => absurd q (by decide)⟩
    rw [dz_tsn _ (by decide), dz_td8] at h
    rintro _ rfl
    refine q_of h (ext8 (lt8 rfl rfl rfl rfl rfl rfl rfl rfl) (fun j hj => ?_))
    rw [dz_mk_hi _ _ _ _ _ _ _ _ _ hj, upd_ne _ _ (by omega)]
  · refine ⟨fun q => absurd q (by decide), fun q => absurd q (by decide), fun q => absurd q (by decide), fun q => absurd q (by decide), fun q => absurd q (by decide), fun _ => ?_, fun q => absurd q (by decide)⟩
    rw [dz_tsn _ (by decide), dz_td9] at h
    rintro _ rfl
    refine q_of h (ext8 (lt8 rfl rfl rfl rfl rfl rfl rfl rfl) (fun j hj => ?_))
    rw [dz_mk_hi _ _ _ _ _ _ _ _ _ hj, upd_ne _ _ (by omega)]
def dz_cost (mv : Nat → Int32) (a : Int32) : Int32 := if 4 ≤ a then 0 else 1 + mv 4 / 5
def dz_lf (a : Int32) : Int32 := gg_sv 4 a.toNatClampNeg
abbrev dz_can (mv st : Nat → Int32) (a : Int32) : Prop := st 7 = 0 ∧ ¬ st 0 < dz_cost mv a ∧ dz_lf a ≤ st 1
def dz_pay (mv st : Nat → Int32) (a : Int32) : Nat → Int32 := upd (upd st 0 (st 0 - dz_cost mv a)) 1 (st 1 - dz_lf a)
/-- the sign of an act, and the state behind it -/
def dz_s (mv st : Nat → Int32) (a : Int32) : Int32 := if dz_can mv st a then (if 4 ≤ a then dz_tds (dz_pay mv st a) a else dz_ts mv (dz_pay mv st a) a) else 4
def dz_n (mv st : Nat → Int32) (a : Int32) : Nat → Int32 := if dz_can mv st a then (if 4 ≤ a then dz_tdn mv (dz_pay mv st a) a else dz_tn mv (dz_pay mv st a) a) else st
theorem vin_of {x : Int32} {n : Nat} (hn : n < 2 ^ 31) (h0 : 0 ≤ x) (h1 : x < Int32.ofNat n) : vp_in x n := by
  obtain ⟨j, hj, rfl⟩ := nI_of (x := x) (fun q => by grind)
  exact vp_in_nI ((nI_ltI hj hn).mp h1) hn
theorem p_does_c37 {t : Nat} {a : Int32} {u : gg_M} {Q : Int32 → gg_M → Prop} (ht : (7 : Nat) ≠ t) (h0 : 0 ≤ a) (h1 : a < 10) (hr : u.1 t 7 = 0) (h : Q (dz_s (u.1 7) (u.1 t) a) (gg_wA u t (dz_n (u.1 7) (u.1 t) a))) : w_X7_does_c37 t a (dz_cost (u.1 7) a) u Q := by
  unfold w_X7_does_c37 w_X7_does_c58 w_X7_does_c104
  have hv : vp_in a 10 := vin_of (by decide) h0 h1
  have hno : ¬ dz_can (u.1 7) (u.1 t) a → Q 4 u := fun q => by
    unfold dz_s dz_n at h
    rwa [if_neg q, if_neg q, gm_self] at h
  refine ⟨fun c1 => hno fun q => q.2.1 c1, fun c1 => ⟨hv, fun c2 => ?_, fun c2 => hno fun q => c2 q.2.2⟩⟩
  rintro _ rfl
  refine ⟨hv, ?_⟩
  rintro _ rfl
  have hc : dz_can (u.1 7) (u.1 t) a := ⟨hr, c1, c2⟩
  unfold dz_s dz_n at h
  rw [if_pos hc, if_pos hc] at h
  have hu : gg_wI (gg_wI u t 0 (u.1 t 0 - dz_cost (u.1 7) a)) t 1 ((gg_wI u t 0 (u.1 t 0 - dz_cost (u.1 7) a)).1 t 1 - gg_sv 4 a.toNatClampNeg) = gg_wA u t (dz_pay (u.1 7) (u.1 t) a) := by
    simp only [gm_I, gm_AA, gg_wA_1]
    rfl
  rw [hu]
  refine ⟨fun c3 => p_tend ht c3 h1 ?_, fun c3 => p_turn ht ?_⟩
  · rw [if_pos c3, if_pos c3] at h
    simpa only [gm_AA, gg_wA_1, gg_wA_n u _ ht] using h
  · rw [if_neg c3, if_neg c3] at h
    simpa only [gm_AA, gg_wA_1, gg_wA_n u _ ht] using h
theorem p_does {t : Nat} {a : Int32} {u : gg_M} {Q : Int32 → gg_M → Prop} (ht : (7 : Nat) ≠ t) (h0 : 0 ≤ a) (h1 : a < 10) (h : Q (dz_s (u.1 7) (u.1 t) a) (gg_wA u t (dz_n (u.1 7) (u.1 t) a))) : w_X7_does t a u Q := by
  unfold w_X7_does w_X7_does_c16
  refine ⟨fun c1 => ?_, fun c1 => ?_⟩
  · unfold dz_s dz_n at h
    rwa [if_neg (fun q => c1 q.1), if_neg (fun q => c1 q.1), gm_self] at h
  · refine p_X10_isBelow ?_
    rw [if_pos ⟨h0, h1⟩]
    refine ⟨fun _ => ?_, fun q => absurd q (by decide)⟩
    have k := p_does_c37 ht h0 h1 c1 h
    unfold dz_cost at k
    refine ⟨fun c2 => ?_, fun c2 => ?_⟩
    · rwa [if_pos c2] at k
    · rwa [if_neg c2] at k
theorem p_begin {t : Nat} {a : Int32} {u : gg_M} {Q : gg_M → Prop} (ht : (7 : Nat) ≠ t) (h : Q (gg_wA u t (dz_mk (u.1 t) (u.1 7 5) (u.1 7 6) 0 0 0 0 a 0))) : w_X7_begin t a u Q := by
  unfold w_X7_begin
  rintro _ rfl _ rfl _ rfl _ rfl _ rfl _ rfl _ rfl _ rfl
  simp only [gm_I, gm_AA, gg_wA_1, gg_wA_n u _ ht]
  have e : upd (upd (upd (upd (upd (upd (upd (upd (u.1 t) 0 (u.1 7 5)) 1 (u.1 7 6)) 2 0) 3 0) 4 0) 5 0) 6 a) 7 0 = dz_mk (u.1 t) (u.1 7 5) (u.1 7 6) 0 0 0 0 a 0 := ext8 (lt8 rfl rfl rfl rfl rfl rfl rfl rfl) (fun j hj => by
    rw [dz_mk_hi _ _ _ _ _ _ _ _ _ hj]
    repeat rw [upd_ne _ _ (by omega)])
  rw [e]
  exact h
