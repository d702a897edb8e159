/-! digest -/
def fo (f : Nat → Int64 → Int64) (h : Int64) : Nat → Int64
  | 0 => h
  | k + 1 => f k (fo f h k)
theorem dg_s {I : gg_M → Prop} {P : Nat → Nat → Bool} {u : gg_M} {B : Int64 × Int32 × gg_M → (Int64 × Int32 × gg_M → Prop) → Prop} {h : Int64} (N : Nat) (f : Nat → Int64 → Int64) (hu : I u)
    (hE : ∀ v k, Fr P u v → I v → B (fo f h N, nI N, v) k)
    (hS : ∀ m a v k, m < N → Fr P u v → I v → (∀ w, Fr P v w → I w → k (f m a, nI m + 1, w)) → B (a, nI m, v) k) : gg_loop B (h, 0, u) := by
  refine gl_up N (fun m q => ∃ v, Fr P u v ∧ I v ∧ q = (fo f h m, nI m, v)) 0 (Nat.zero_le _) ⟨u, Fr.rf, hu, rfl⟩ ?_
  rintro m q hm ⟨v, hF, hI, rfl⟩ k hk
  by_cases e : m = N
  · subst e
    exact hE v k hF hI
  · refine hS m _ v k (by omega) hF hI fun w hF2 hI2 => ?_
    rw [nI_1]
    exact hk (by omega) _ ⟨w, hF.tr hF2, hI2, rfl⟩
theorem nr {m N : Nat} (h : m < N) (hN : N < 2 ^ 31) : 0 ≤ nI m ∧ nI m < nI N := ⟨nI_pos' (by omega), nI_lt h hN⟩
theorem q_fits_n {A : gg_M} {m : Nat} (hm : m < 4) : q_fits A (nI m) = if xNM A = 0 then -3 else xLw A m := by
  unfold q_fits
  rw [nI_clamp (by omega)]
  exact if_pos (nr hm (by decide))
theorem q_motor_n {A : gg_M} {m : Nat} (hm : m < 7) : q_motor A (nI m) = xmv A m := by
  unfold q_motor
  rw [nI_clamp (by omega)]
  exact if_pos (nr hm (by decide))
theorem q_trouble_n {A : gg_M} {m : Nat} {b : Int32} (hm : m < 5) (hb : 0 ≤ b ∧ b < 2) : q_trouble A (nI m) b = qn_trouble A m b := by
  unfold q_trouble
  rw [nI_clamp (by omega)]
  exact if_pos ⟨nr hm (by decide), hb⟩
theorem q_chance_n {A : gg_M} {m : Nat} {b : Int32} (hm : m < 10) (hb : 0 ≤ b ∧ b < 2) : q_chance A (nI m) 2 b = qn_chance A (nI m) 2 b :=
  if_pos (c := (0 ≤ nI m ∧ nI m < 10) ∧ ((0 : Int32) ≤ 2 ∧ (2 : Int32) < 7) ∧ 0 ≤ b ∧ b < 2) ⟨nr hm (by decide), ⟨by decide, by decide⟩, hb⟩
theorem q_parts_n {A : gg_M} {m : Nat} (hm : m < 10) : q_parts A (nI m) = if xTot A = 0 then -3 else nI (fb_ct (xE A (nI m)) 7) :=
  if_pos (c := 0 ≤ nI m ∧ nI m < 10) (nr hm (by decide))
theorem q_best_n {A : gg_M} {m : Nat} (hm : m < 3) : q_best A 2 (nI m) = qn_best A 1 (nI m) :=
  if_pos (c := ((1 : Int32) ≤ 2 ∧ (2 : Int32) ≤ 3) ∧ 0 ≤ nI m ∧ nI m < 3) ⟨⟨by decide, by decide⟩, nr hm (by decide)⟩
theorem q_habit_n {A : gg_M} {m : Nat} {b : Int32} (hm : m < 2) (hb : 0 ≤ b ∧ b < 2) : q_habit A (nI m) b = qn_habit A (nI m) b :=
  if_pos (c := (0 ≤ nI m ∧ nI m < 2) ∧ 0 ≤ b ∧ b < 2) ⟨nr hm (by decide), hb⟩
theorem q_state_n {A : gg_M} {s m : Nat} (hs : s < 32) (hm : m < 8) : q_state A (nI s) (nI m) = xS A s m := by
  unfold q_state
  rw [nI_clamp (by omega), nI_clamp (by omega)]
  exact if_pos ⟨nr hs (by decide), nr hm (by decide)⟩
theorem q_work_n {A : gg_M} : q_work A 2 = qn_work A 2 := if_pos (by decide)
theorem q_drowned_n {A : gg_M} : q_drowned A 0 3 = drn (xmv A) 3 0 100 0 := if_pos (by decide)
theorem b01 : ((0 : Int32) ≤ 0 ∧ (0 : Int32) < 2) ∧ (0 : Int32) ≤ 1 ∧ (1 : Int32) < 2 := by decide
def dA (A : gg_M) (k : Nat) (a : Int64) : Int64 := 31 * a + (q_count A (nI k)).toInt64
def dB (A : gg_M) (k : Nat) (a : Int64) : Int64 := 31 * a + (q_motor A (nI k)).toInt64
def dC (A : gg_M) (k : Nat) (a : Int64) : Int64 := 31 * (31 * a + q_trouble A (nI k) 0) + q_trouble A (nI k) 1
def dD (A : gg_M) (k : Nat) (a : Int64) : Int64 := 31 * (31 * a + q_chance A (nI k) 2 0) + q_chance A (nI k) 2 1
def dE (A : gg_M) (k : Nat) (a : Int64) : Int64 := 31 * a + (q_parts A (nI k)).toInt64
def dF (A : gg_M) (k : Nat) (a : Int64) : Int64 := 31 * a + q_best A 2 (nI k)
def dG (A : gg_M) (k : Nat) (a : Int64) : Int64 := 31 * (31 * a + q_habit A (nI k) 0) + q_habit A (nI k) 1
def dH (A : gg_M) (i k : Nat) (a : Int64) : Int64 := 31 * a + (q_state A (gg_sv 0 i) (nI k)).toInt64
def dI (A : gg_M) (i : Nat) (a : Int64) : Int64 := fo (dH A i) a 8
def dJ (A : gg_M) (k : Nat) (a : Int64) : Int64 := 31 * a + (q_fits A (nI k)).toInt64
def e9 (A : gg_M) (h : Int64) : Int64 := fo (dJ A) h 4
def e8 (A : gg_M) (h : Int64) : Int64 := e9 A (31 * fo (dI A) h 3 + (q_drowned A 0 3).toInt64)
def e7 (A : gg_M) (h : Int64) : Int64 := e8 A (31 * (31 * fo (dG A) h 2 + (q_has A (-1)).toInt64) + q_work A 2)
def e6 (A : gg_M) (h : Int64) : Int64 := e7 A (fo (dF A) h 3)
def e5 (A : gg_M) (h : Int64) : Int64 := e6 A (fo (dE A) h 10)
def e4 (A : gg_M) (h : Int64) : Int64 := e5 A (fo (dD A) h 10)
def e3 (A : gg_M) (h : Int64) : Int64 := e4 A (fo (dC A) h 5)
def e2 (A : gg_M) (h : Int64) : Int64 := e3 A (fo (dB A) h 7)
def q_digest (A : gg_M) : Int64 := e2 A (31 * (31 * fo (dA A) 17 8 + (q_fault A 0).toInt64) + (q_fault A 1).toInt64)
theorem c_dg9 {A u : gg_M} {h : Int64} {Q : Int64 → gg_M → Prop} (hA : WF A) (h0 : CI A u) (hQ : ∀ v, Fr PC u v → CI A v → Q (e9 A h) v) : w_X10_digest_c339 h 0 u Q := by
  unfold w_X10_digest_c339
  refine dg_s (P := PC) (I := CI A) 4 (dJ A) h0 (fun v k hF hI => ?_) (fun m a v k hm hF hI hk => ?_) <;> unfold b_X10_digest_c339 <;> dsimp only
  · refine ⟨fun _ => ?_, fun c => (c (Int32.le_refl _)).elim⟩
    exact hQ v hF hI
  · refine ⟨fun c => absurd c (nI_ge hm (by decide)), fun _ => ?_⟩
    refine c_fits hA hI fun w hF2 hI2 => ?_
    rintro _ rfl
    exact hk w hF2 hI2
theorem c_in8 {A u : gg_M} {h : Int64} {i : Nat} {k : Int64 × Int32 × gg_M → Prop} {Q : Int64 → gg_M → Prop} (hA : WF A) (h0 : CI A u) (hi : i < 3) (hQ : ∀ v, Fr PC u v → CI A v → k (dI A i h, nI i + 1, v)) : w_X10_digest_c285 h (nI i) 0 u k Q := by
  unfold w_X10_digest_c285
  refine dg_s (P := PC) (I := CI A) 8 (dH A i) h0 (fun v k1 hF hI => ?_) (fun m a v k1 hm hF hI hk => ?_) <;> unfold b_X10_digest_c285 <;> dsimp only
  · exact ⟨fun _ => hQ v hF hI, fun c => (c (Int32.le_refl _)).elim⟩
  · refine ⟨fun c => absurd c (nI_ge hm (by decide)), fun _ => ⟨vp_in_nI hi (by decide), ?_⟩⟩
    rw [nI_clamp (by omega)]
    refine c_state hA hI fun w hF2 hI2 => ?_
    rintro _ rfl
    exact hk w hF2 hI2
theorem c_dg8 {A u : gg_M} {h : Int64} {Q : Int64 → gg_M → Prop} (hA : WF A) (h0 : CI A u) (hQ : ∀ v, Fr PC u v → CI A v → Q (e8 A h) v) : w_X10_digest_c274 h 0 u Q := by
  unfold w_X10_digest_c274
  refine dg_s (P := PC) (I := CI A) 3 (dI A) h0 (fun v k hF hI => ?_) (fun m a v k hm hF hI hk => ?_) <;> unfold b_X10_digest_c274 <;> dsimp only
  · refine ⟨fun _ => ?_, fun c => (c (Int32.le_refl _)).elim⟩
    refine c_drowned hI fun w hF2 hI2 => ?_
    rintro _ rfl
    exact c_dg9 hA hI2 fun z hF3 hI3 => hQ z ((hF.tr hF2).tr hF3) hI3
  · refine ⟨fun c => absurd c (nI_ge hm (by decide)), fun _ => ?_⟩
    exact c_in8 hA hI hm fun w hF2 hI2 => hk w hF2 hI2
theorem c_dg7 {A u : gg_M} {h : Int64} {Q : Int64 → gg_M → Prop} (hA : WF A) (h0 : CI A u) (hQ : ∀ v, Fr PC u v → CI A v → Q (e7 A h) v) : w_X10_digest_c214 h 0 u Q := by
  unfold w_X10_digest_c214
  refine dg_s (P := PC) (I := CI A) 2 (dG A) h0 (fun v k hF hI => ?_) (fun m a v k hm hF hI hk => ?_) <;> unfold b_X10_digest_c214 <;> dsimp only
  · refine ⟨fun _ => ?_, fun c => (c (Int32.le_refl _)).elim⟩
    refine c_has hA hI fun w hF2 hI2 => ?_
    refine c_work hA hI2 fun z hF3 hI3 => ?_
    rintro _ rfl
    exact c_dg8 hA hI3 fun y hF4 hI4 => hQ y (((hF.tr hF2).tr hF3).tr hF4) hI4
  · refine ⟨fun c => absurd c (nI_ge hm (by decide)), fun _ => ?_⟩
    refine c_habit hA hI fun w hF2 hI2 => ?_
    refine c_habit hA hI2 fun z hF3 hI3 => ?_
    rintro _ rfl
    exact hk z (hF2.tr hF3) hI3
theorem c_dg6 {A u : gg_M} {h : Int64} {Q : Int64 → gg_M → Prop} (hA : WF A) (h0 : CI A u) (hQ : ∀ v, Fr PC u v → CI A v → Q (e6 A h) v) : w_X10_digest_c188 h 0 u Q := by
  unfold w_X10_digest_c188
  refine dg_s (P := PC) (I := CI A) 3 (dF A) h0 (fun v k hF hI => ?_) (fun m a v k hm hF hI hk => ?_) <;> unfold b_X10_digest_c188 <;> dsimp only
  · refine ⟨fun _ => ?_, fun c => (c (Int32.le_refl _)).elim⟩
    exact c_dg7 hA hI fun w hF2 hI2 => hQ w (hF.tr hF2) hI2
  · refine ⟨fun c => absurd c (nI_ge hm (by decide)), fun _ => ?_⟩
    refine c_best hA hI fun w hF2 hI2 => ?_
    rintro _ rfl
    exact hk w hF2 hI2
theorem c_dg5 {A u : gg_M} {h : Int64} {Q : Int64 → gg_M → Prop} (hA : WF A) (h0 : CI A u) (hQ : ∀ v, Fr PC u v → CI A v → Q (e5 A h) v) : w_X10_digest_c161 h 0 u Q := by
  unfold w_X10_digest_c161
  refine dg_s (P := PC) (I := CI A) 10 (dE A) h0 (fun v k hF hI => ?_) (fun m a v k hm hF hI hk => ?_) <;> unfold b_X10_digest_c161 <;> dsimp only
  · refine ⟨fun _ => ?_, fun c => (c (Int32.le_refl _)).elim⟩
    exact c_dg6 hA hI fun w hF2 hI2 => hQ w (hF.tr hF2) hI2
  · refine ⟨fun c => absurd c (nI_ge hm (by decide)), fun _ => ?_⟩
    refine c_parts hA hI fun w hF2 hI2 => ?_
    rintro _ rfl
    exact hk w hF2 hI2
theorem c_dg4 {A u : gg_M} {h : Int64} {Q : Int64 → gg_M → Prop} (hA : WF A) (h0 : CI A u) (hQ : ∀ v, Fr PC u v → CI A v → Q (e4 A h) v) : w_X10_digest_c121 h 0 u Q := by
  unfold w_X10_digest_c121
  refine dg_s (P := PC) (I := CI A) 10 (dD A) h0 (fun v k hF hI => ?_) (fun m a v k hm hF hI hk => ?_) <;> unfold b_X10_digest_c121 <;> dsimp only
  · refine ⟨fun _ => ?_, fun c => (c (Int32.le_refl _)).elim⟩
    exact c_dg5 hA hI fun w hF2 hI2 => hQ w (hF.tr hF2) hI2
  · refine ⟨fun c => absurd c (nI_ge hm (by decide)), fun _ => ?_⟩
    refine c_chance hA hI fun w hF2 hI2 => ?_
    refine c_chance hA hI2 fun z hF3 hI3 => ?_
    rintro _ rfl
    exact hk z (hF2.tr hF3) hI3
theorem c_dg3 {A u : gg_M} {h : Int64} {Q : Int64 → gg_M → Prop} (hA : WF A) (h0 : CI A u) (hQ : ∀ v, Fr PC u v → CI A v → Q (e3 A h) v) : w_X10_digest_c84 h 0 u Q := by
  unfold w_X10_digest_c84
  refine dg_s (P := PC) (I := CI A) 5 (dC A) h0 (fun v k hF hI => ?_) (fun m a v k hm hF hI hk => ?_) <;> unfold b_X10_digest_c84 <;> dsimp only
  · refine ⟨fun _ => ?_, fun c => (c (Int32.le_refl _)).elim⟩
    exact c_dg4 hA hI fun w hF2 hI2 => hQ w (hF.tr hF2) hI2
  · refine ⟨fun c => absurd c (nI_ge hm (by decide)), fun _ => ?_⟩
    refine c_trouble hA hI fun w hF2 hI2 => ?_
    refine c_trouble hA hI2 fun z hF3 hI3 => ?_
    rintro _ rfl
    exact hk z (hF2.tr hF3) hI3
theorem c_dg2 {A u : gg_M} {h : Int64} {Q : Int64 → gg_M → Prop} (hA : WF A) (h0 : CI A u) (hQ : ∀ v, Fr PC u v → CI A v → Q (e2 A h) v) : w_X10_digest_c57 h 0 u Q := by
  unfold w_X10_digest_c57
  refine dg_s (P := PC) (I := CI A) 7 (dB A) h0 (fun v k hF hI => ?_) (fun m a v k hm hF hI hk => ?_) <;> unfold b_X10_digest_c57 <;> dsimp only
  · refine ⟨fun _ => ?_, fun c => (c (Int32.le_refl _)).elim⟩
    exact c_dg3 hA hI fun w hF2 hI2 => hQ w (hF.tr hF2) hI2
  · refine ⟨fun c => absurd c (nI_ge hm (by decide)), fun _ => ?_⟩
    refine c_motor hI fun w hF2 hI2 => ?_
    rintro _ rfl
    exact hk w hF2 hI2
theorem c_digest {A u : gg_M} {Q : Int64 → gg_M → Prop} (hA : WF A) (h0 : CI A u) (hQ : ∀ v, Fr PC u v → CI A v → Q (q_digest A) v) : w_X10_digest u Q := by
  unfold w_X10_digest w_X10_digest_c6
  refine dg_s (P := PC) (I := CI A) 8 (dA A) h0 (fun v k hF hI => ?_) (fun m a v k hm hF hI hk => ?_) <;> unfold b_X10_digest_c6 <;> dsimp only
  · refine ⟨fun _ => ?_, fun c => (c (Int32.le_refl _)).elim⟩
    refine c_fault hI fun w hF2 hI2 => ?_
    refine c_fault hI2 fun z hF3 hI3 => ?_
    rintro _ rfl
    exact c_dg2 hA hI3 fun y hF4 hI4 => hQ y (((hF.tr hF2).tr hF3).tr hF4) hI4
  · refine ⟨fun c => absurd c (nI_ge hm (by decide)), fun _ => ?_⟩
    refine c_count hA hI fun w hF2 hI2 => ?_
    rintro _ rfl
    exact hk w hF2 hI2
theorem r_dg9 {A u : gg_M} {h : Int64} {Q : Int64 → gg_M → Prop} (hA : WF A) (h0 : RI A u) (hQ : ∀ v, Fr PR u v → RI A v → Q (e9 A h) v) : w_X11_digest_c358 h 0 u Q := by
  unfold w_X11_digest_c358
  refine dg_s (P := PR) (I := RI A) 4 (dJ A) h0 (fun v k hF hI => ?_) (fun m a v k hm hF hI hk => ?_) <;> unfold b_X11_digest_c358 <;> dsimp only
  · refine ⟨fun _ => ?_, fun c => (c (Int32.le_refl _)).elim⟩
    exact hQ v hF hI
  · refine ⟨fun c => absurd c (nI_ge hm (by decide)), fun _ => ?_⟩
    refine r_fitsNow hA hI hm ?_
    rw [← q_fits_n hm]
    rintro _ rfl
    exact hk v Fr.rf hI
theorem r_st {A u : gg_M} {a z : Int64} {i s m : Nat} {e : Int32} {k k1 : Int64 × Int32 × gg_M → Prop} {Q : Int64 → gg_M → Prop} (hA : WF A) (h0 : RI A u) (hs : s < 32) (hm : m < 8) (hz : z = 31 * a) (he : gg_sv 0 i = nI s) (hk : ∀ v, Fr PR u v → RI A v → k1 (dH A i m a, nI m + 1, v)) : w_X11_digest_c322 e (nI m) z (nI s) u k k1 Q := by
  subst hz
  unfold w_X11_digest_c322
  refine r_stateNow hA h0 hs hm fun w hF2 hI2 => ?_
  rw [← q_state_n hs hm, ← he]
  rintro _ rfl
  exact hk w hF2 hI2
theorem r_in8 {A u : gg_M} {h : Int64} {i : Nat} {k : Int64 × Int32 × gg_M → Prop} {Q : Int64 → gg_M → Prop} (hA : WF A) (h0 : RI A u) (hi : i < 3) (hQ : ∀ v, Fr PR u v → RI A v → k (dI A i h, nI i + 1, v)) : w_X11_digest_c290 h (nI i) 0 u k Q := by
  unfold w_X11_digest_c290
  refine dg_s (P := PR) (I := RI A) 8 (dH A i) h0 (fun v k1 hF hI => ?_) (fun m a v k1 hm hF hI hk => ?_) <;> unfold b_X11_digest_c290 <;> dsimp only
  · exact ⟨fun _ => hQ v hF hI, fun c => (c (Int32.le_refl _)).elim⟩
  · refine ⟨fun c => absurd c (nI_ge hm (by decide)), fun _ => ⟨fun c0 => ⟨fun c1 => ?_, fun c1 => ?_⟩, fun c0 => ?_⟩⟩
    · have e : i = 2 := by
        have z0 : i ≠ 0 := fun z => c0 (by rw [z]; rfl)
        have z1 : i ≠ 1 := fun z => c1 (by rw [z]; rfl)
        omega
      exact r_st (s := 31) hA hI (by decide) hm rfl (by rw [e]; rfl) hk
    · have e : i = 1 := (nI_eq (by omega) (by decide)).mp c1
      exact r_st (s := 3) hA hI (by decide) hm rfl (by rw [e]; rfl) hk
    · have e : i = 0 := (nI_eq (by omega) (by decide)).mp c0
      exact r_st (s := 0) hA hI (by decide) hm rfl (by rw [e]; rfl) hk
theorem r_dg8 {A u : gg_M} {h : Int64} {Q : Int64 → gg_M → Prop} (hA : WF A) (h0 : RI A u) (hQ : ∀ v, Fr PR u v → RI A v → Q (e8 A h) v) : w_X11_digest_c282 h 0 u Q := by
  unfold w_X11_digest_c282
  refine dg_s (P := PR) (I := RI A) 3 (dI A) h0 (fun v k hF hI => ?_) (fun m a v k hm hF hI hk => ?_) <;> unfold b_X11_digest_c282 <;> dsimp only
  · refine ⟨fun _ => ?_, fun c => (c (Int32.le_refl _)).elim⟩
    refine r_drownedNow (s := 0) (b := 3) hA hI (by decide) (by decide) fun w hF2 hI2 => ?_
    rw [← q_drowned_n]
    rintro _ rfl
    exact r_dg9 hA hI2 fun z hF3 hI3 => hQ z ((hF.tr hF2).tr hF3) hI3
  · refine ⟨fun c => absurd c (nI_ge hm (by decide)), fun _ => ?_⟩
    exact r_in8 hA hI hm fun w hF2 hI2 => hk w hF2 hI2
theorem r_dg7 {A u : gg_M} {h : Int64} {Q : Int64 → gg_M → Prop} (hA : WF A) (h0 : RI A u) (hQ : ∀ v, Fr PR u v → RI A v → Q (e7 A h) v) : w_X11_digest_c218 h 0 u Q := by
  unfold w_X11_digest_c218
  refine dg_s (P := PR) (I := RI A) 2 (dG A) h0 (fun v k hF hI => ?_) (fun m a v k hm hF hI hk => ?_) <;> unfold b_X11_digest_c218 <;> dsimp only
  · refine ⟨fun _ => ?_, fun c => (c (Int32.le_refl _)).elim⟩
    refine r_hasNow hA hI (Or.inl rfl) fun w hF2 hI2 => ?_
    rintro _ rfl
    refine r_workNow hA hI2 fun z hF3 hI3 => ?_
    rw [← q_work_n]
    rintro _ rfl
    exact r_dg8 hA hI3 fun y hF4 hI4 => hQ y (((hF.tr hF2).tr hF3).tr hF4) hI4
  · refine ⟨fun c => absurd c (nI_ge hm (by decide)), fun _ => ?_⟩
    refine r_habitOf hA hI (nr hm (by decide)) fun w hF2 hI2 => ?_
    rw [← q_habit_n hm b01.1]
    rintro _ rfl
    refine r_habitOf hA hI2 (nr hm (by decide)) fun z hF3 hI3 => ?_
    rw [← q_habit_n hm b01.2]
    rintro _ rfl
    exact hk z (hF2.tr hF3) hI3
theorem r_dg6 {A u : gg_M} {h : Int64} {Q : Int64 → gg_M → Prop} (hA : WF A) (h0 : RI A u) (hQ : ∀ v, Fr PR u v → RI A v → Q (e6 A h) v) : w_X11_digest_c192 h 0 u Q := by
  unfold w_X11_digest_c192
  refine dg_s (P := PR) (I := RI A) 3 (dF A) h0 (fun v k hF hI => ?_) (fun m a v k hm hF hI hk => ?_) <;> unfold b_X11_digest_c192 <;> dsimp only
  · refine ⟨fun _ => ?_, fun c => (c (Int32.le_refl _)).elim⟩
    exact r_dg7 hA hI fun w hF2 hI2 => hQ w (hF.tr hF2) hI2
  · refine ⟨fun c => absurd c (nI_ge hm (by decide)), fun _ => ?_⟩
    refine r_bestNow (n := 1) hA hI (by decide) fun w hF2 hI2 => ?_
    rw [← q_best_n hm]
    rintro _ rfl
    exact hk w hF2 hI2
theorem r_dg5 {A u : gg_M} {h : Int64} {Q : Int64 → gg_M → Prop} (hA : WF A) (h0 : RI A u) (hQ : ∀ v, Fr PR u v → RI A v → Q (e5 A h) v) : w_X11_digest_c165 h 0 u Q := by
  unfold w_X11_digest_c165
  refine dg_s (P := PR) (I := RI A) 10 (dE A) h0 (fun v k hF hI => ?_) (fun m a v k hm hF hI hk => ?_) <;> unfold b_X11_digest_c165 <;> dsimp only
  · refine ⟨fun _ => ?_, fun c => (c (Int32.le_refl _)).elim⟩
    exact r_dg6 hA hI fun w hF2 hI2 => hQ w (hF.tr hF2) hI2
  · refine ⟨fun c => absurd c (nI_ge hm (by decide)), fun _ => ?_⟩
    refine r_partsNow hA hI hm fun w hF2 hI2 => ?_
    rw [← q_parts_n hm]
    rintro _ rfl
    exact hk w hF2 hI2
theorem r_dg4 {A u : gg_M} {h : Int64} {Q : Int64 → gg_M → Prop} (hA : WF A) (h0 : RI A u) (hQ : ∀ v, Fr PR u v → RI A v → Q (e4 A h) v) : w_X11_digest_c123 h 0 u Q := by
  unfold w_X11_digest_c123
  refine dg_s (P := PR) (I := RI A) 10 (dD A) h0 (fun v k hF hI => ?_) (fun m a v k hm hF hI hk => ?_) <;> unfold b_X11_digest_c123 <;> dsimp only
  · refine ⟨fun _ => ?_, fun c => (c (Int32.le_refl _)).elim⟩
    exact r_dg5 hA hI fun w hF2 hI2 => hQ w (hF.tr hF2) hI2
  · refine ⟨fun c => absurd c (nI_ge hm (by decide)), fun _ => ?_⟩
    refine r_chanceNow (y := 2) hA hI hm fun w hF2 hI2 => ?_
    rw [← q_chance_n hm b01.1]
    rintro _ rfl
    refine r_chanceNow (y := 2) hA hI2 hm fun z hF3 hI3 => ?_
    rw [← q_chance_n hm b01.2]
    rintro _ rfl
    exact hk z (hF2.tr hF3) hI3
theorem r_dg3 {A u : gg_M} {h : Int64} {Q : Int64 → gg_M → Prop} (hA : WF A) (h0 : RI A u) (hQ : ∀ v, Fr PR u v → RI A v → Q (e3 A h) v) : w_X11_digest_c84 h 0 u Q := by
  unfold w_X11_digest_c84
  refine dg_s (P := PR) (I := RI A) 5 (dC A) h0 (fun v k hF hI => ?_) (fun m a v k hm hF hI hk => ?_) <;> unfold b_X11_digest_c84 <;> dsimp only
  · refine ⟨fun _ => ?_, fun c => (c (Int32.le_refl _)).elim⟩
    exact r_dg4 hA hI fun w hF2 hI2 => hQ w (hF.tr hF2) hI2
  · refine ⟨fun c => absurd c (nI_ge hm (by decide)), fun _ => ?_⟩
    refine r_troubleNow hA hI hm fun w hF2 hI2 => ?_
    rw [← q_trouble_n hm b01.1]
    rintro _ rfl
    refine r_troubleNow hA hI2 hm fun z hF3 hI3 => ?_
    rw [← q_trouble_n hm b01.2]
    rintro _ rfl
    exact hk z (hF2.tr hF3) hI3
theorem r_dg2 {A u : gg_M} {h : Int64} {Q : Int64 → gg_M → Prop} (hA : WF A) (h0 : RI A u) (hQ : ∀ v, Fr PR u v → RI A v → Q (e2 A h) v) : w_X11_digest_c57 h 0 u Q := by
  unfold w_X11_digest_c57
  refine dg_s (P := PR) (I := RI A) 7 (dB A) h0 (fun v k hF hI => ?_) (fun m a v k hm hF hI hk => ?_) <;> unfold b_X11_digest_c57 <;> dsimp only
  · refine ⟨fun _ => ?_, fun c => (c (Int32.le_refl _)).elim⟩
    exact r_dg3 hA hI fun w hF2 hI2 => hQ w (hF.tr hF2) hI2
  · refine ⟨fun c => absurd c (nI_ge hm (by decide)), fun _ => ?_⟩
    refine r_motorOf hA hI hm fun w hF2 hI2 => ?_
    rw [← q_motor_n hm]
    rintro _ rfl
    exact hk w hF2 hI2
theorem r_digest {A u : gg_M} {Q : Int64 → gg_M → Prop} (hA : WF A) (h0 : RI A u) (hQ : ∀ v, Fr PR u v → RI A v → Q (q_digest A) v) : w_X11_digest u Q := by
  unfold w_X11_digest w_X11_digest_c6
  refine dg_s (P := PR) (I := RI A) 8 (dA A) h0 (fun v k hF hI => ?_) (fun m a v k hm hF hI hk => ?_) <;> unfold b_X11_digest_c6 <;> dsimp only
  · refine ⟨fun _ => ?_, fun c => (c (Int32.le_refl _)).elim⟩
    refine rmotor_s hA hI fun w hF2 hI2 _ => ?_
    rintro _ rfl
    refine rhabit_s hA hI2 fun z hF3 hI3 _ _ => ?_
    rintro _ rfl
    exact r_dg2 hA hI3 fun y hF4 hI4 => hQ y (((hF.tr (hF2.mono PMo_R)).tr (hF3.mono PHa_R)).tr hF4) hI4
  · refine ⟨fun c => absurd c (nI_ge hm (by decide)), fun _ => ?_⟩
    refine r_count hA hI fun w hF2 hI2 => ?_
    rintro _ rfl
    exact hk w hF2 hI2
