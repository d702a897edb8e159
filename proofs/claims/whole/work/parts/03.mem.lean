/-! the memory of both objects: ints and longs by cell and place; writes -/
abbrev gg_M : Type := (Nat → Nat → Int32) × (Nat → Nat → Int64)
def gg_wA (u : gg_M) (t : Nat) (f : Nat → Int32) : gg_M := (fun a => if a = t then f else u.1 a, u.2)
def gg_wB (u : gg_M) (t : Nat) (f : Nat → Int64) : gg_M := (u.1, fun a => if a = t then f else u.2 a)
def gg_wI (u : gg_M) (t j : Nat) (x : Int32) : gg_M := gg_wA u t (upd (u.1 t) j x)
def gg_wL (u : gg_M) (t j : Nat) (x : Int64) : gg_M := gg_wB u t (vp_updL (u.2 t) j x)
def gg_kd (t : Nat) : Nat := [10, 11, 8, 8, 20, 20, 4, 20, 5, 20, 0, 20, 2, 20, 20, 1, 21, 20, 24, 20, 20, 20, 24, 20, 20, 20, 20, 20, 20, 7, 7, 9, 20, 3, 20, 20, 20, 20, 23, 6, 6, 6, 6, 20, 20, 20, 20, 20, 20, 20, 20, 20, 20, 20, 20, 21, 20, 20, 20, 20, 22, 20, 20, 20, 20].getD t 99
def gg_al (t : Nat) : Nat := [0, 0, 0, 0, 60, 40, 0, 7, 0, 90, 0, 5, 0, 24, 24, 0, 128, 32, 3, 7, 7, 7, 3, 7, 7, 7, 4, 4, 3, 0, 0, 0, 32, 0, 16, 16, 16, 4, 4, 0, 0, 0, 0, 48, 48, 48, 48, 120, 2, 7, 200, 1024, 5, 24, 24, 32, 128, 16, 16, 16, 4, 4, 4, 192, 48].getD t 0
def gg_rf (t j : Nat) : Nat := ([[2, 3, 6, 8, 10, 12, 15, 31, 30, 33, 38, 0], [47, 48, 49, 50, 0, 0, 51, 52, 0, 53, 54, 55, 0, 56, 0, 0, 57, 58, 59, 60, 61, 62, 63, 64, 0], [4, 0], [5, 0], [], [], [7, 0], [], [9, 0, 0], [], [11], [], [13, 14, 0], [], [], [16, 17, 18, 22, 26, 27, 28, 29, 0, 0, 0], [], [], [19, 20, 21], [], [], [], [23, 24, 25], [], [], [], [], [], [], [0, 0, 0, 0, 0, 0, 0, 0], [0, 0, 0, 0, 0, 0, 0, 0], [32, 0, 0], [], [34, 35, 36, 37, 0, 0], [], [], [], [], [39, 40, 41, 42], [43, 0, 0], [44, 0, 0], [45, 0, 0], [46, 0, 0], [], [], [], [], [], [], [], [], [], [], [], [], [], [], [], [], [], [], [], [], [], []].getD t []).getD j 0
def gg_nf (c : Nat) : Nat := [1, 11, 3, 6, 2, 3, 3, 8, 2, 3, 12, 25].getD c 0
def gg_fk (c j : Nat) : Nat := ([[2], [2, 2, 2, 2, 2, 2, 2, 2, 0, 0, 0], [2, 2, 0], [2, 2, 2, 2, 0, 0], [2, 0], [2, 0, 0], [2, 0, 0], [0, 0, 0, 0, 0, 0, 0, 0], [2, 0], [2, 0, 0], [2, 2, 2, 2, 2, 2, 2, 2, 2, 2, 2, 0], [2, 2, 2, 2, 0, 0, 2, 2, 0, 2, 2, 2, 1, 2, 0, 0, 2, 2, 2, 2, 2, 2, 2, 2, 0]].getD c []).getD j 0
abbrev gg_cls : List vw_C := [(RX0, TX0, 1), (RX1, TX1, 11), (RX2, TX2, 3), (RX3, TX3, 6), (RX4, TX4, 2), (RX5, TX5, 3), (RX6, TX6, 3), (RX7, TX7, 8), (RX8, TX8, 2), (RX9, TX9, 3), (RX10, TX10, 12), (RX11, TX11, 25)]
def gg_ft (c j : Nat) : FieldType := match c with
  | 0 => tyX0 j
  | 1 => tyX1 j
  | 2 => tyX2 j
  | 3 => tyX3 j
  | 4 => tyX4 j
  | 5 => tyX5 j
  | 6 => tyX6 j
  | 7 => tyX7 j
  | 8 => tyX8 j
  | 9 => tyX9 j
  | 10 => tyX10 j
  | _ => tyX11 j
def gg_sn (k : Nat) : String × String × String := [("ColdMotor", "DIGEST_SETS", "[I"), ("ColdMotor$Motor", "LETTERS", "[C"), ("ColdMotor$Motor", "AT_FIRST", "[I"), ("ColdMotor$Motor", "MOST", "[I"), ("ColdMotor$State", "MINUTES", "[I")].getD k ("", "", "")
def gg_st (k : Nat) : FieldType := [.int, .char, .int, .int, .int].getD k .int
def gg_sl (k : Nat) : Nat := [3, 7, 7, 7, 10].getD k 0
def gg_sv (k j : Nat) : Int32 := ([[0, 3, 31], [112, 115, 116, 100, 99, 98, 109], [7, 6, 10, 4, 4, 12, 60], [9, 9, 20, 9, 9, 30, 99], [1, 1, 1, 1, 10, 8, 6, 2, 12, 15]].getD k []).getD j 0
def gg_ty (k : Nat) : FieldType := if k = 20 then .int else if k = 21 then .long else if k = 22 then .boolean else if k = 23 then .object RX6 else .array .int
def gg_cv (ad : Nat → Nat) (v : Value) : Value := match v with
  | .ref k => .ref (ad k)
  | w => w
def gg_fv (u : gg_M) (t j : Nat) : Value := match gg_fk (gg_kd t) j with
  | 0 => .int (u.1 t j)
  | 1 => .long (u.2 t j)
  | _ => .ref (gg_rf t j)
def gg_fs (ad : Nat → Nat) (u : gg_M) (t : Nat) : List Value := (List.range (gg_nf (gg_kd t))).map (fun j => gg_cv ad (gg_fv u t j))
def gg_ce (ad : Nat → Nat) (ca : Nat → ClassId) (u : gg_M) (t : Nat) : va_E :=
  if gg_kd t < 12 then .inr (gg_kd t, gg_fs ad u t)
  else if gg_kd t = 21 then .inl (ca t, gg_al t, .inr (.inl (u.2 t)))
  else if gg_kd t = 20 ∨ gg_kd t = 22 then .inl (ca t, gg_al t, .inl (u.1 t))
  else .inl (ca t, gg_al t, .inr (.inr (.inr (.inr (fun j => some (ad (gg_rf t j)))))))
def gg_ws (ad : Nat → Nat) (ca : Nat → ClassId) (u : gg_M) : va_W := (List.range 65).map (fun t => (ad t, gg_ce ad ca u t))
theorem gg_ws_at {ad : Nat → Nat} {ca : Nat → ClassId} {u : gg_M} {t : Nat} (ht : t < 65) : (gg_ws ad ca u)[t]? = some (ad t, gg_ce ad ca u t) := by
  simp [gg_ws, List.getElem?_map, List.getElem?_range ht]
theorem gg_ws_len {ad : Nat → Nat} {ca : Nat → ClassId} {u : gg_M} : (gg_ws ad ca u).length = 65 := by simp [gg_ws]
theorem gg_ws_of {ad : Nat → Nat} {ca : Nat → ClassId} {u : gg_M} {k : Nat} {q : Nat × va_E} (h : (gg_ws ad ca u)[k]? = some q) : k < 65 ∧ q = (ad k, gg_ce ad ca u k) := by
  have hk : k < 65 := by
    have := (List.getElem?_eq_some_iff.mp h).1
    rwa [gg_ws_len] at this
  exact ⟨hk, (Option.some.inj ((gg_ws_at hk).symm.trans h)).symm⟩
theorem gg_ws_set {ad : Nat → Nat} {ca : Nat → ClassId} {u u' : gg_M} {t : Nat} {e : va_E} (ht : t < 65) (h0 : gg_ce ad ca u' t = e) (h1 : ∀ a, a ≠ t → gg_ce ad ca u' a = gg_ce ad ca u a) : (gg_ws ad ca u).set t (ad t, e) = gg_ws ad ca u' := by
  apply List.ext_getElem?
  intro k
  by_cases hk : k = t
  · subst hk
    rw [List.getElem?_set_self (by rw [gg_ws_len]; exact ht), gg_ws_at ht, h0]
  · rw [List.getElem?_set_ne (Ne.symm hk)]
    by_cases h65 : k < 65
    · rw [gg_ws_at h65, gg_ws_at h65, h1 k hk]
    · rw [List.getElem?_eq_none (by rw [gg_ws_len]; omega), List.getElem?_eq_none (by rw [gg_ws_len]; omega)]
theorem gg_ce_o {ad : Nat → Nat} {ca : Nat → ClassId} {u : gg_M} {t c : Nat} (hk : gg_kd t = c) (hc : c < 12) : gg_ce ad ca u t = .inr (c, gg_fs ad u t) := by
  subst hk
  exact if_pos hc
theorem gg_ce_i {ad : Nat → Nat} {ca : Nat → ClassId} {u : gg_M} {t : Nat} (hk : gg_kd t = 20 ∨ gg_kd t = 22) : gg_ce ad ca u t = .inl (ca t, gg_al t, .inl (u.1 t)) := by
  unfold gg_ce
  rw [if_neg (by omega), if_neg (by omega), if_pos hk]
theorem gg_ce_l {ad : Nat → Nat} {ca : Nat → ClassId} {u : gg_M} {t : Nat} (hk : gg_kd t = 21) : gg_ce ad ca u t = .inl (ca t, gg_al t, .inr (.inl (u.2 t))) := by
  unfold gg_ce
  rw [if_neg (by omega), if_pos hk]
theorem gg_ce_r {ad : Nat → Nat} {ca : Nat → ClassId} {u : gg_M} {t : Nat} (hk : gg_kd t = 23 ∨ gg_kd t = 24) : gg_ce ad ca u t = .inl (ca t, gg_al t, .inr (.inr (.inr (.inr (fun j => some (ad (gg_rf t j))))))) := by
  unfold gg_ce
  rw [if_neg (by omega), if_neg (by omega), if_neg (by omega)]
theorem gg_fv_c {u u' : gg_M} {t : Nat} (h1 : u'.1 t = u.1 t) (h2 : u'.2 t = u.2 t) (j : Nat) : gg_fv u' t j = gg_fv u t j := by
  unfold gg_fv
  rw [h1, h2]
theorem gg_ce_c {ad : Nat → Nat} {ca : Nat → ClassId} {u u' : gg_M} {t : Nat} (h1 : u'.1 t = u.1 t) (h2 : u'.2 t = u.2 t) : gg_ce ad ca u' t = gg_ce ad ca u t := by
  unfold gg_ce gg_fs
  simp only [gg_fv_c h1 h2, h1, h2]
theorem gg_wA_1 (u : gg_M) (t : Nat) (f : Nat → Int32) : (gg_wA u t f).1 t = f := if_pos rfl
theorem gg_wA_n (u : gg_M) {t a : Nat} (f : Nat → Int32) (h : a ≠ t) : (gg_wA u t f).1 a = u.1 a := if_neg h
theorem gg_wB_1 (u : gg_M) (t : Nat) (f : Nat → Int64) : (gg_wB u t f).2 t = f := if_pos rfl
theorem gg_wB_n (u : gg_M) {t a : Nat} (f : Nat → Int64) (h : a ≠ t) : (gg_wB u t f).2 a = u.2 a := if_neg h
theorem gg_ce_wA {ad : Nat → Nat} {ca : Nat → ClassId} {u : gg_M} {t : Nat} {f : Nat → Int32} (a : Nat) (h : a ≠ t) : gg_ce ad ca (gg_wA u t f) a = gg_ce ad ca u a := gg_ce_c (gg_wA_n u f h) rfl
theorem gg_ce_wB {ad : Nat → Nat} {ca : Nat → ClassId} {u : gg_M} {t : Nat} {f : Nat → Int64} (a : Nat) (h : a ≠ t) : gg_ce ad ca (gg_wB u t f) a = gg_ce ad ca u a := gg_ce_c rfl (gg_wB_n u f h)
theorem gg_fs_at {ad : Nat → Nat} {u : gg_M} {t j : Nat} (hj : j < gg_nf (gg_kd t)) : (gg_fs ad u t)[j]? = some (gg_cv ad (gg_fv u t j)) := by
  simp [gg_fs, List.getElem?_map, List.getElem?_range hj]
theorem gg_fs_len {ad : Nat → Nat} {u : gg_M} {t : Nat} : (gg_fs ad u t).length = gg_nf (gg_kd t) := by simp [gg_fs]
theorem gg_fs_set {ad : Nat → Nat} {u u' : gg_M} {t j : Nat} {v : Value} (hj : j < gg_nf (gg_kd t)) (h0 : gg_cv ad (gg_fv u' t j) = v) (h1 : ∀ a, a ≠ j → gg_fv u' t a = gg_fv u t a) : (gg_fs ad u t).set j v = gg_fs ad u' t := by
  apply List.ext_getElem?
  intro k
  by_cases hk : k = j
  · subst hk
    rw [List.getElem?_set_self (by rw [gg_fs_len]; exact hj), gg_fs_at hj, h0]
  · rw [List.getElem?_set_ne (Ne.symm hk)]
    by_cases h65 : k < gg_nf (gg_kd t)
    · rw [gg_fs_at h65, gg_fs_at h65, h1 k hk]
    · rw [List.getElem?_eq_none (by rw [gg_fs_len]; omega), List.getElem?_eq_none (by rw [gg_fs_len]; omega)]
theorem gg_fv_wI {u : gg_M} {t j : Nat} {x : Int32} (hf : gg_fk (gg_kd t) j = 0) : gg_fv (gg_wI u t j x) t j = .int x := by
  unfold gg_fv
  rw [hf]
  show Value.int ((gg_wA u t _).1 t j) = _
  rw [gg_wA_1]
  exact congrArg Value.int (if_pos rfl)
theorem gg_fv_wIn {u : gg_M} {t j a : Nat} {x : Int32} (h : a ≠ j) : gg_fv (gg_wI u t j x) t a = gg_fv u t a := by
  unfold gg_fv
  have e : (gg_wI u t j x).1 t a = u.1 t a := by
    show (gg_wA u t _).1 t a = _
    rw [gg_wA_1]
    exact if_neg h
  rw [e]
  rfl
theorem gg_fv_wL {u : gg_M} {t j : Nat} {x : Int64} (hf : gg_fk (gg_kd t) j = 1) : gg_fv (gg_wL u t j x) t j = .long x := by
  unfold gg_fv
  rw [hf]
  show Value.long ((gg_wB u t _).2 t j) = _
  rw [gg_wB_1]
  exact congrArg Value.long (if_pos rfl)
theorem gg_fv_wLn {u : gg_M} {t j a : Nat} {x : Int64} (h : a ≠ j) : gg_fv (gg_wL u t j x) t a = gg_fv u t a := by
  unfold gg_fv
  have e : (gg_wL u t j x).2 t a = u.2 t a := by
    show (gg_wB u t _).2 t a = _
    rw [gg_wB_1]
    exact if_neg h
  rw [e]
  rfl
/-! locals: places, some of them known -/
def gg_kl (o : Option Value) : Option Value := match o with
  | some (.long _) => none
  | some (.double _) => none
  | w => w
def gg_s1 : List (Option Value) → Nat → Value → List (Option Value)
  | [], _, _ => []
  | _ :: r, 0, v => some v :: r
  | o :: r, 1, v => gg_kl o :: gg_s1 r 0 v
  | o :: r, n + 2, v => o :: gg_s1 r (n + 1) v
def gg_s2 : List (Option Value) → Nat → Value → List (Option Value)
  | [], _, _ => []
  | [_], 0, v => [some v]
  | _ :: _ :: r, 0, v => some v :: none :: r
  | o :: r, 1, v => gg_kl o :: gg_s2 r 0 v
  | o :: r, n + 2, v => o :: gg_s2 r (n + 1) v
def gg_lp (ad : Nat → Nat) : Nat → List (Option Value) → List (Nat × Value)
  | _, [] => []
  | i, none :: r => gg_lp ad (i + 1) r
  | i, some v :: r => (i, gg_cv ad v) :: gg_lp ad (i + 1) r
theorem gg_lp_mem (ad : Nat → Nat) : ∀ (L : List (Option Value)) (i k : Nat) (w : Value), (k, w) ∈ gg_lp ad i L ↔ ∃ j v, k = i + j ∧ L[j]? = some (some v) ∧ w = gg_cv ad v
  | [], i, k, w => by simp [gg_lp]
  | none :: r, i, k, w => by
    rw [gg_lp, gg_lp_mem ad r (i + 1) k w]
    constructor
    · rintro ⟨j, v, h1, h2, h3⟩
      exact ⟨j + 1, v, by omega, by simpa using h2, h3⟩
    · rintro ⟨j, v, h1, h2, h3⟩
      match j, h2 with
      | 0, h2 => simp at h2
      | j + 1, h2 => exact ⟨j, v, by omega, by simpa using h2, h3⟩
  | some x :: r, i, k, w => by
    rw [gg_lp, List.mem_cons, gg_lp_mem ad r (i + 1) k w]
    constructor
    · rintro (h | ⟨j, v, h1, h2, h3⟩)
      · cases h
        exact ⟨0, x, rfl, rfl, rfl⟩
      · exact ⟨j + 1, v, by omega, by simpa using h2, h3⟩
    · rintro ⟨j, v, h1, h2, h3⟩
      match j, h2 with
      | 0, h2 =>
        cases h2
        subst h1 h3
        exact Or.inl rfl
      | j + 1, h2 => exact Or.inr ⟨j, v, by omega, by simpa using h2, h3⟩
def gg_lv (ad : Nat → Nat) (ls : Array Slot) (nL : Nat) (L : List (Option Value)) : Prop := L.length = nL ∧ lv_has ls nL (gg_lp ad 0 L)
theorem gg_lv_at {ad : Nat → Nat} {ls : Array Slot} {nL i : Nat} {L : List (Option Value)} {v : Value} (h : gg_lv ad ls nL L) (hi : L[i]? = some (some v)) : ls[i]? = some (.val (gg_cv ad v)) :=
  h.2.2.2 (i, gg_cv ad v) ((gg_lp_mem ad L 0 i _).mpr ⟨i, v, (Nat.zero_add i).symm, hi, rfl⟩)
theorem gg_kl_some {o : Option Value} {v : Value} (h : gg_kl o = some v) : o = some v ∧ v.category = 1 := by
  cases o with
  | none => cases h
  | some w => cases w <;> cases h <;> exact ⟨rfl, rfl⟩
theorem gg_s1_len : ∀ (L : List (Option Value)) (i : Nat) (v : Value), (gg_s1 L i v).length = L.length
  | [], _, _ => rfl
  | _ :: r, 0, v => rfl
  | o :: r, 1, v => by rw [gg_s1, List.length_cons, List.length_cons, gg_s1_len r 0 v]
  | o :: r, n + 2, v => by rw [gg_s1, List.length_cons, List.length_cons, gg_s1_len r (n + 1) v]
theorem gg_s2_len : ∀ (L : List (Option Value)) (i : Nat) (v : Value), (gg_s2 L i v).length = L.length
  | [], _, _ => rfl
  | [_], 0, v => rfl
  | _ :: _ :: r, 0, v => rfl
  | o :: r, 1, v => by rw [gg_s2, List.length_cons, List.length_cons, gg_s2_len r 0 v]
  | o :: r, n + 2, v => by rw [gg_s2, List.length_cons, List.length_cons, gg_s2_len r (n + 1) v]
theorem gg_s1_at : ∀ (L : List (Option Value)) (i : Nat) (v : Value) (j : Nat) (w : Value), (gg_s1 L i v)[j]? = some (some w) → (j = i ∧ w = v) ∨ (j ≠ i ∧ L[j]? = some (some w) ∧ ¬ (j + 1 = i ∧ w.category = 2))
  | [], _, _, j, w, h => by simp [gg_s1] at h
  | o :: r, 0, v, j, w, h => by
    match j, h with
    | 0, h => exact Or.inl ⟨rfl, by cases h; rfl⟩
    | j + 1, h => exact Or.inr ⟨by omega, by simpa [gg_s1] using h, by omega⟩
  | o :: r, 1, v, j, w, h => by
    match j, h with
    | 0, h =>
      have h2 : gg_kl o = some w := by simpa [gg_s1] using h
      obtain ⟨e1, e2⟩ := gg_kl_some h2
      exact Or.inr ⟨by omega, by simp [e1], fun q => by omega⟩
    | j + 1, h =>
      have h2 : (gg_s1 r 0 v)[j]? = some (some w) := by simpa [gg_s1] using h
      rcases gg_s1_at r 0 v j w h2 with ⟨e1, e2⟩ | ⟨e1, e2, e3⟩
      · exact Or.inl ⟨by omega, e2⟩
      · exact Or.inr ⟨by omega, by simpa using e2, by omega⟩
  | o :: r, n + 2, v, j, w, h => by
    match j, h with
    | 0, h => exact Or.inr ⟨by omega, by simpa [gg_s1] using h, by omega⟩
    | j + 1, h =>
      have h2 : (gg_s1 r (n + 1) v)[j]? = some (some w) := by simpa [gg_s1] using h
      rcases gg_s1_at r (n + 1) v j w h2 with ⟨e1, e2⟩ | ⟨e1, e2, e3⟩
      · exact Or.inl ⟨by omega, e2⟩
      · exact Or.inr ⟨by omega, by simpa using e2, fun q => e3 ⟨by omega, q.2⟩⟩
theorem gg_s2_at : ∀ (L : List (Option Value)) (i : Nat) (v : Value) (j : Nat) (w : Value), (gg_s2 L i v)[j]? = some (some w) → (j = i ∧ w = v) ∨ (j ≠ i ∧ j ≠ i + 1 ∧ L[j]? = some (some w) ∧ ¬ (j + 1 = i ∧ w.category = 2))
  | [], _, _, j, w, h => by simp [gg_s2] at h
  | [o], 0, v, j, w, h => by
    match j, h with
    | 0, h => exact Or.inl ⟨rfl, by cases h; rfl⟩
    | j + 1, h => simp [gg_s2] at h
  | o :: o2 :: r, 0, v, j, w, h => by
    match j, h with
    | 0, h => exact Or.inl ⟨rfl, by cases h; rfl⟩
    | 1, h => simp [gg_s2] at h
    | j + 2, h => exact Or.inr ⟨by omega, by omega, by simpa [gg_s2] using h, by omega⟩
  | o :: r, 1, v, j, w, h => by
    match j, h with
    | 0, h =>
      have h2 : gg_kl o = some w := by simpa [gg_s2] using h
      obtain ⟨e1, e2⟩ := gg_kl_some h2
      exact Or.inr ⟨by omega, by omega, by simp [e1], fun q => by omega⟩
    | j + 1, h =>
      have h2 : (gg_s2 r 0 v)[j]? = some (some w) := by simpa [gg_s2] using h
      rcases gg_s2_at r 0 v j w h2 with ⟨e1, e2⟩ | ⟨e1, e2, e3, e4⟩
      · exact Or.inl ⟨by omega, e2⟩
      · exact Or.inr ⟨by omega, by omega, by simpa using e3, by omega⟩
  | o :: r, n + 2, v, j, w, h => by
    match j, h with
    | 0, h => exact Or.inr ⟨by omega, by omega, by simpa [gg_s2] using h, by omega⟩
    | j + 1, h =>
      have h2 : (gg_s2 r (n + 1) v)[j]? = some (some w) := by simpa [gg_s2] using h
      rcases gg_s2_at r (n + 1) v j w h2 with ⟨e1, e2⟩ | ⟨e1, e2, e3, e4⟩
      · exact Or.inl ⟨by omega, e2⟩
      · exact Or.inr ⟨by omega, by omega, by simpa using e3, fun q => e4 ⟨by omega, q.2⟩⟩
theorem gg_cat (ad : Nat → Nat) (v : Value) : (gg_cv ad v).category = v.category := by cases v <;> rfl
theorem gg_lv_s1 {ad : Nat → Nat} {ls : Array Slot} {nL i : Nat} {L : List (Option Value)} {v : Value} (hl : L.length = nL) (h : lv_has ls nL ((i, gg_cv ad v) :: (gg_lp ad 0 L).filter (fun q => !(q.1 == i) && !(q.1 + 1 == i && q.2.category == 2)))) : gg_lv ad ls nL (gg_s1 L i v) := by
  refine ⟨by rw [gg_s1_len]; exact hl, h.1, h.2.1, fun q hq => ?_⟩
  obtain ⟨k, w⟩ := q
  obtain ⟨j, v', e1, e2, e3⟩ := (gg_lp_mem ad _ 0 k w).mp hq
  have ek : k = j := by omega
  subst ek
  rcases gg_s1_at L i v k v' e2 with ⟨f1, f2⟩ | ⟨f1, f2, f3⟩
  · subst f1 f2 e3
    exact h.2.2 _ List.mem_cons_self
  · refine h.2.2 (k, w) (List.mem_cons_of_mem _ (List.mem_filter.mpr ⟨(gg_lp_mem ad L 0 k w).mpr ⟨k, v', by omega, f2, e3⟩, ?_⟩))
    subst e3
    simp only [gg_cat, Bool.and_eq_true, Bool.not_eq_true', beq_eq_false_iff_ne, ne_eq, Bool.and_eq_false_iff]
    refine ⟨f1, ?_⟩
    by_cases hc : k + 1 = i
    · exact Or.inr (fun q => f3 ⟨hc, q⟩)
    · exact Or.inl hc
theorem gg_lv_s2 {ad : Nat → Nat} {ls : Array Slot} {nL i : Nat} {L : List (Option Value)} {v : Value} (hl : L.length = nL) (h : lv_has ls nL ((i, gg_cv ad v) :: (gg_lp ad 0 L).filter (fun q => !(q.1 == i) && (!(q.1 == i + 1) && !(q.1 + 1 == i && q.2.category == 2))))) : gg_lv ad ls nL (gg_s2 L i v) := by
  refine ⟨by rw [gg_s2_len]; exact hl, h.1, h.2.1, fun q hq => ?_⟩
  obtain ⟨k, w⟩ := q
  obtain ⟨j, v', e1, e2, e3⟩ := (gg_lp_mem ad _ 0 k w).mp hq
  have ek : k = j := by omega
  subst ek
  rcases gg_s2_at L i v k v' e2 with ⟨f1, f2⟩ | ⟨f1, f1', f2, f3⟩
  · subst f1 f2 e3
    exact h.2.2 _ List.mem_cons_self
  · refine h.2.2 (k, w) (List.mem_cons_of_mem _ (List.mem_filter.mpr ⟨(gg_lp_mem ad L 0 k w).mpr ⟨k, v', by omega, f2, e3⟩, ?_⟩))
    subst e3
    simp only [gg_cat, Bool.and_eq_true, Bool.not_eq_true', beq_eq_false_iff_ne, ne_eq, Bool.and_eq_false_iff]
    refine ⟨f1, f1', ?_⟩
    by_cases hc : k + 1 = i
    · exact Or.inr (fun q => f3 ⟨hc, q⟩)
    · exact Or.inl hc
/-- the locals at a method's entry -/
def gg_eL : List Value → List (Option Value)
  | [] => []
  | v :: r => if v.category = 2 then some v :: none :: gg_eL r else some v :: gg_eL r
theorem gg_eL_args (ad : Nat → Nat) : ∀ (vs : List Value) (i : Nat), gg_lp ad i (gg_eL vs) = lv_args i (vs.map (gg_cv ad))
  | [], i => rfl
  | v :: r, i => by
    rw [gg_eL, List.map_cons, lv_args, gg_cat]
    by_cases hc : v.category = 2
    · rw [if_pos hc, if_pos hc, gg_lp, gg_lp, gg_eL_args ad r (i + 2)]
    · rw [if_neg hc, if_neg hc, gg_lp, gg_eL_args ad r (i + 1)]
theorem gg_lp_pad (ad : Nat → Nat) : ∀ (L : List (Option Value)) (i n : Nat), gg_lp ad i (L ++ List.replicate n none) = gg_lp ad i L
  | [], i, 0 => rfl
  | [], i, n + 1 => by
    rw [List.nil_append, List.replicate_succ, gg_lp]
    have := gg_lp_pad ad [] (i + 1) n
    rwa [List.nil_append] at this
  | none :: r, i, n => by rw [List.cons_append, gg_lp, gg_lp, gg_lp_pad ad r (i + 1) n]
  | some v :: r, i, n => by rw [List.cons_append, gg_lp, gg_lp, gg_lp_pad ad r (i + 1) n]
theorem gg_eL_len (ad : Nat → Nat) : ∀ vs : List Value, (lg_sl (vs.map (gg_cv ad))).length = (gg_eL vs).length
  | [] => rfl
  | v :: r => by
    have ih := gg_eL_len ad r
    unfold lg_sl at ih ⊢
    rw [List.map_cons, List.flatMap_cons, List.length_append, ih, gg_eL, gg_cat]
    by_cases hc : v.category = 2
    · rw [if_pos hc, if_pos hc]; simp; omega
    · rw [if_neg hc, if_neg hc]; simp; omega
