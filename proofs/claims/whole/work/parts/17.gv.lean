/-! X11_sumOf -/
def w_X11_sumOf_c60 (a2 : Int32) (u : gg_M)  (Q : Int32 → gg_M → Prop) : Prop :=
  Q a2 u
set_option maxRecDepth 10000 in
theorem m_X11_sumOf_c60 {a2 : Int32} {u : gg_M}  {G : gg_T} {Q : Int32 → gg_M → Prop} (hG : gg_Cl none cX11_sumOf 4 RX11 (some .int) 1 (gg_eI Q) G)  (h : w_X11_sumOf_c60 a2 u  Q)   : G 60 [none, none, some (.int a2), none] [] u := by
  unfold w_X11_sumOf_c60 at h
  refine gg_iload_n hG dX11_sumOf_60 rfl rfl ?_
  exact gg_iret hG dX11_sumOf_61 rfl rfl ⟨_, rfl, h⟩
def b_X11_sumOf_c31 (a1 : Int32) (a2 : Int32) (a3 : Int32) (u : gg_M)  (k31 : Int32 × Int32 × gg_M → Prop) (Q : Int32 → gg_M → Prop) : Prop :=
  ((u.1 1 15) ≤ a3 →
   w_X11_sumOf_c60 a2 u Q) ∧
  (¬ (u.1 1 15) ≤ a3 →
   (¬ a1 = 7 →
    w_X11_sumOf_c60 a2 u Q) ∧
   (a1 = 7 →
    vp_in a3 16 ∧
    ∀ v4 : Int32, v4 = (a2 + (u.1 59 a3.toNatClampNeg)) →
    k31 (v4, (a3 + 1), u)))
set_option maxRecDepth 10000 in
theorem mb_X11_sumOf_c31 {a1 : Int32} {a2 : Int32} {a3 : Int32} {u : gg_M}  {k31 : Int32 × Int32 × gg_M → Prop} {G : gg_T} {Q : Int32 → gg_M → Prop} (hG : gg_Cl none cX11_sumOf 4 RX11 (some .int) 1 (gg_eI Q) G)  (h : b_X11_sumOf_c31 a1 a2 a3 u k31 Q)   (hk31 : ∀ s : Int32 × Int32 × gg_M, k31 s → G 31 [some (.ref 1), some (.int a1), some (.int s.1), some (.int s.2.1)] [] s.2.2) : G 31 [some (.ref 1), some (.int a1), some (.int a2), some (.int a3)] [] u := by
  unfold b_X11_sumOf_c31 at h
  refine gg_iload_n hG dX11_sumOf_31 rfl rfl ?_
  refine gg_aload_n hG dX11_sumOf_32 rfl rfl ?_
  refine gg_get (v := .int (u.1 1 15)) hG dX11_sumOf_33 (by decide) rfl fl_RX11_226 rfl ?_
  refine gg_ic_ge (tgt := 60) hG dX11_sumOf_36 (by decide) (fun c1 => ?_) (fun c1 => ?_)
  · replace h := h.1 c1
    refine gg_mk hG [false, false, true, false] rfl ?_
    exact m_X11_sumOf_c60 hG h
  · replace h := h.2 c1
    refine gg_iload_n hG dX11_sumOf_39 rfl rfl ?_
    refine gg_bipush (v := 7) hG dX11_sumOf_40 (by decide) ?_
    refine gg_ic_ne (tgt := 60) hG dX11_sumOf_42 (by decide) (fun c2 => ?_) (fun c2 => ?_)
    · replace h := h.1 c2
      refine gg_mk hG [false, false, true, false] rfl ?_
      exact m_X11_sumOf_c60 hG h
    · replace h := h.2 c2
      refine gg_iload_n hG dX11_sumOf_45 rfl rfl ?_
      refine gg_aload_n hG dX11_sumOf_46 rfl rfl ?_
      refine gg_get (v := .ref 59) hG dX11_sumOf_47 (by decide) rfl fl_RX11_47 rfl ?_
      refine gg_iload_n hG dX11_sumOf_50 rfl rfl ?_
      obtain ⟨h3, h⟩ := h
      refine gg_iald (j := a3.toNatClampNeg) hG dX11_sumOf_51 (by decide) rfl h3 rfl ?_
      refine gg_iadd hG dX11_sumOf_52 ?_
      refine gg_ni (fun v4 e4 => ?_)
      replace h := h v4 e4
      refine gg_istore_n (L1 := [some (.ref 1), some (.int a1), some (.int v4), some (.int a3)]) hG dX11_sumOf_53 rfl (by decide) rfl ?_
      refine gg_iinc (v := (a3 + 1)) (L1 := [some (.ref 1), some (.int a1), some (.int v4), some (.int (a3 + 1))]) hG dX11_sumOf_54 rfl rfl (by decide) rfl ?_
      refine gg_goto (tgt := 31) hG dX11_sumOf_57 (by decide) ?_
      exact hk31 _ h
def w_X11_sumOf_c31 (a1 : Int32) (a2 : Int32) (a3 : Int32) (u : gg_M)  (Q : Int32 → gg_M → Prop) : Prop :=
  gg_loop (fun (s : Int32 × Int32 × gg_M) k31 => b_X11_sumOf_c31 a1 s.1 s.2.1 s.2.2  k31 Q) (a2, a3, u)
set_option maxRecDepth 10000 in
theorem m_X11_sumOf_c31 {a1 : Int32} {a2 : Int32} {a3 : Int32} {u : gg_M}  {G : gg_T} {Q : Int32 → gg_M → Prop} (hG : gg_Cl none cX11_sumOf 4 RX11 (some .int) 1 (gg_eI Q) G)  (h : w_X11_sumOf_c31 a1 a2 a3 u  Q)   : G 31 [some (.ref 1), some (.int a1), some (.int a2), some (.int a3)] [] u :=
  gg_loop_use (P := fun s : Int32 × Int32 × gg_M => G 31 [some (.ref 1), some (.int a1), some (.int s.1), some (.int s.2.1)] [] s.2.2) h (fun s rc hb hr => mb_X11_sumOf_c31 hG  hb   hr)
def w_X11_sumOf_c29 (a1 : Int32) (a2 : Int32) (u : gg_M)  (Q : Int32 → gg_M → Prop) : Prop :=
  w_X11_sumOf_c31 a1 a2 0 u Q
set_option maxRecDepth 10000 in
theorem m_X11_sumOf_c29 {a1 : Int32} {a2 : Int32} {u : gg_M}  {G : gg_T} {Q : Int32 → gg_M → Prop} (hG : gg_Cl none cX11_sumOf 4 RX11 (some .int) 1 (gg_eI Q) G)  (h : w_X11_sumOf_c29 a1 a2 u  Q)   : G 29 [some (.ref 1), some (.int a1), some (.int a2), none] [] u := by
  unfold w_X11_sumOf_c29 at h
  refine gg_iconst (v := 0) hG dX11_sumOf_29 (by decide) ?_
  refine gg_istore_n (L1 := [some (.ref 1), some (.int a1), some (.int a2), some (.int 0)]) hG dX11_sumOf_30 rfl (by decide) rfl ?_
  exact m_X11_sumOf_c31 hG h
def b_X11_sumOf_c4 (a1 : Int32) (a2 : Int32) (a3 : Int32) (u : gg_M)  (k4 : Int32 × Int32 × gg_M → Prop) (Q : Int32 → gg_M → Prop) : Prop :=
  (5 ≤ a3 →
   w_X11_sumOf_c29 a1 a2 u Q) ∧
  (¬ 5 ≤ a3 →
   (¬ a1 = 5 →
    w_X11_sumOf_c29 a1 a2 u Q) ∧
   (a1 = 5 →
    vp_in a3 5 ∧
    ∀ v8 : Int32, v8 = (a2 + (u.1 52 a3.toNatClampNeg)) →
    k4 (v8, (a3 + 1), u)))
set_option maxRecDepth 10000 in
theorem mb_X11_sumOf_c4 {a1 : Int32} {a2 : Int32} {a3 : Int32} {u : gg_M}  {k4 : Int32 × Int32 × gg_M → Prop} {G : gg_T} {Q : Int32 → gg_M → Prop} (hG : gg_Cl none cX11_sumOf 4 RX11 (some .int) 1 (gg_eI Q) G)  (h : b_X11_sumOf_c4 a1 a2 a3 u k4 Q)   (hk4 : ∀ s : Int32 × Int32 × gg_M, k4 s → G 4 [some (.ref 1), some (.int a1), some (.int s.1), some (.int s.2.1)] [] s.2.2) : G 4 [some (.ref 1), some (.int a1), some (.int a2), some (.int a3)] [] u := by
  unfold b_X11_sumOf_c4 at h
  refine gg_iload_n hG dX11_sumOf_4 rfl rfl ?_
  refine gg_iconst (v := 5) hG dX11_sumOf_5 (by decide) ?_
  refine gg_ic_ge (tgt := 29) hG dX11_sumOf_6 (by decide) (fun c5 => ?_) (fun c5 => ?_)
  · replace h := h.1 c5
    refine gg_mk hG [true, true, true, false] rfl ?_
    exact m_X11_sumOf_c29 hG h
  · replace h := h.2 c5
    refine gg_iload_n hG dX11_sumOf_9 rfl rfl ?_
    refine gg_iconst (v := 5) hG dX11_sumOf_10 (by decide) ?_
    refine gg_ic_ne (tgt := 29) hG dX11_sumOf_11 (by decide) (fun c6 => ?_) (fun c6 => ?_)
    · replace h := h.1 c6
      refine gg_mk hG [true, true, true, false] rfl ?_
      exact m_X11_sumOf_c29 hG h
    · replace h := h.2 c6
      refine gg_iload_n hG dX11_sumOf_14 rfl rfl ?_
      refine gg_aload_n hG dX11_sumOf_15 rfl rfl ?_
      refine gg_get (v := .ref 52) hG dX11_sumOf_16 (by decide) rfl fl_RX11_25 rfl ?_
      refine gg_iload_n hG dX11_sumOf_19 rfl rfl ?_
      obtain ⟨h7, h⟩ := h
      refine gg_iald (j := a3.toNatClampNeg) hG dX11_sumOf_20 (by decide) rfl h7 rfl ?_
      refine gg_iadd hG dX11_sumOf_21 ?_
      refine gg_ni (fun v8 e8 => ?_)
      replace h := h v8 e8
      refine gg_istore_n (L1 := [some (.ref 1), some (.int a1), some (.int v8), some (.int a3)]) hG dX11_sumOf_22 rfl (by decide) rfl ?_
      refine gg_iinc (v := (a3 + 1)) (L1 := [some (.ref 1), some (.int a1), some (.int v8), some (.int (a3 + 1))]) hG dX11_sumOf_23 rfl rfl (by decide) rfl ?_
      refine gg_goto (tgt := 4) hG dX11_sumOf_26 (by decide) ?_
      exact hk4 _ h
def w_X11_sumOf_c4 (a1 : Int32) (a2 : Int32) (a3 : Int32) (u : gg_M)  (Q : Int32 → gg_M → Prop) : Prop :=
  gg_loop (fun (s : Int32 × Int32 × gg_M) k4 => b_X11_sumOf_c4 a1 s.1 s.2.1 s.2.2  k4 Q) (a2, a3, u)
set_option maxRecDepth 10000 in
theorem m_X11_sumOf_c4 {a1 : Int32} {a2 : Int32} {a3 : Int32} {u : gg_M}  {G : gg_T} {Q : Int32 → gg_M → Prop} (hG : gg_Cl none cX11_sumOf 4 RX11 (some .int) 1 (gg_eI Q) G)  (h : w_X11_sumOf_c4 a1 a2 a3 u  Q)   : G 4 [some (.ref 1), some (.int a1), some (.int a2), some (.int a3)] [] u :=
  gg_loop_use (P := fun s : Int32 × Int32 × gg_M => G 4 [some (.ref 1), some (.int a1), some (.int s.1), some (.int s.2.1)] [] s.2.2) h (fun s rc hb hr => mb_X11_sumOf_c4 hG  hb   hr)
def w_X11_sumOf (a1 : Int32) (u : gg_M)  (Q : Int32 → gg_M → Prop) : Prop :=
  w_X11_sumOf_c4 a1 0 0 u Q
set_option maxRecDepth 10000 in
theorem m_X11_sumOf {a1 : Int32} {u : gg_M}  {G : gg_T} {Q : Int32 → gg_M → Prop} (hG : gg_Cl none cX11_sumOf 4 RX11 (some .int) 1 (gg_eI Q) G)  (h : w_X11_sumOf a1 u  Q)   : G 0 [some (.ref 1), some (.int a1), none, none] [] u := by
  unfold w_X11_sumOf at h
  refine gg_iconst (v := 0) hG dX11_sumOf_0 (by decide) ?_
  refine gg_istore_n (L1 := [some (.ref 1), some (.int a1), some (.int 0), none]) hG dX11_sumOf_1 rfl (by decide) rfl ?_
  refine gg_iconst (v := 0) hG dX11_sumOf_2 (by decide) ?_
  refine gg_istore_n (L1 := [some (.ref 1), some (.int a1), some (.int 0), some (.int 0)]) hG dX11_sumOf_3 rfl (by decide) rfl ?_
  exact m_X11_sumOf_c4 hG h
theorem mt_X11_sumOf {a1 : Int32}  {u : gg_M} {Q : Int32 → gg_M → Prop} (h : w_X11_sumOf a1 u Q) : gg_Mt 1 yX11_sumOf cX11_sumOf 4 (some .int) [.ref 1, .int a1] u (gg_eI Q) :=
  gg_intro (own := RX11) (by decide +kernel) rfl rfl (Nat.le_of_ble_eq_true rfl) (fun G hG => m_X11_sumOf hG  h)
/-! X11_actsOfHabit -/
def w_X11_actsOfHabit_c16 (z0 : Int32) (u : gg_M)  (Q : Int32 → gg_M → Prop) : Prop :=
  Q z0 u
set_option maxRecDepth 10000 in
theorem m_X11_actsOfHabit_c16 {z0 : Int32} {u : gg_M}  {G : gg_T} {Q : Int32 → gg_M → Prop} (hG : gg_Cl none cX11_actsOfHabit 1 RX11 (some .int) 3 (gg_eI Q) G)  (h : w_X11_actsOfHabit_c16 z0 u  Q)   : G 16 [none] [.int z0] u := by
  unfold w_X11_actsOfHabit_c16 at h
  exact gg_iret hG dX11_actsOfHabit_16 rfl rfl ⟨_, rfl, h⟩
def w_X11_actsOfHabit  (u : gg_M)  (Q : Int32 → gg_M → Prop) : Prop :=
  w_X11_habitNow u (fun v2 u1 =>
  (¬ v2 = (-1) →
   w_X11_actsOfHabit_c16 0 u1 Q) ∧
  (v2 = (-1) →
   w_X11_actsOfHabit_c16 (u1.1 1 4) u1 Q))
set_option maxRecDepth 10000 in
theorem m_X11_actsOfHabit  {u : gg_M}  {G : gg_T} {Q : Int32 → gg_M → Prop} (hG : gg_Cl none cX11_actsOfHabit 1 RX11 (some .int) 3 (gg_eI Q) G)  (h : w_X11_actsOfHabit  u  Q)   : G 0 [some (.ref 1)] [] u := by
  unfold w_X11_actsOfHabit at h
  refine gg_aload_n hG dX11_actsOfHabit_0 rfl rfl ?_
  refine gg_xv (As := []) (st := []) hG dX11_actsOfHabit_1 ml_RX11_107 Y_X11_habitNow YV_X11_habitNow (by decide) ⟨_, rfl, rfl⟩ (mt_X11_habitNow h) rfl (by decide) (Nat.le_of_ble_eq_true rfl) rfl (gg_ki (fun v2 u1 h => ?_))
  refine gg_iconst (v := (-1)) hG dX11_actsOfHabit_4 (by decide) ?_
  refine gg_ic_ne (tgt := 15) hG dX11_actsOfHabit_5 (by decide) (fun c3 => ?_) (fun c3 => ?_)
  · replace h := h.1 c3
    refine gg_iconst (v := 0) hG dX11_actsOfHabit_15 (by decide) ?_
    refine gg_mk hG [false] rfl ?_
    exact m_X11_actsOfHabit_c16 hG h
  · replace h := h.2 c3
    refine gg_aload_n hG dX11_actsOfHabit_8 rfl rfl ?_
    refine gg_get (v := .int (u1.1 1 4)) hG dX11_actsOfHabit_9 (by decide) rfl fl_RX11_101 rfl ?_
    refine gg_goto (tgt := 16) hG dX11_actsOfHabit_12 (by decide) ?_
    refine gg_mk hG [false] rfl ?_
    exact m_X11_actsOfHabit_c16 hG h
theorem mt_X11_actsOfHabit   {u : gg_M} {Q : Int32 → gg_M → Prop} (h : w_X11_actsOfHabit  u Q) : gg_Mt 3 yX11_actsOfHabit cX11_actsOfHabit 1 (some .int) [.ref 1] u (gg_eI Q) :=
  gg_intro (own := RX11) (by decide +kernel) rfl rfl (Nat.le_of_ble_eq_true rfl) (fun G hG => m_X11_actsOfHabit hG  h)
/-! X11_count -/
def w_X11_count (a1 : Int32) (u : gg_M)  (Q : Int32 → gg_M → Prop) : Prop :=
  (a1 = 0 →
   vp_in a1 2 ∧
   Q (u.1 48 a1.toNatClampNeg) u) ∧
  (a1 = 1 →
   vp_in a1 2 ∧
   Q (u.1 48 a1.toNatClampNeg) u) ∧
  (a1 = 2 →
   Q (u.1 1 8) u) ∧
  (a1 = 3 →
   w_X11_leftNow u (fun v8 u7 =>
   Q v8 u7)) ∧
  (a1 = 4 →
   Q (u.1 1 15) u) ∧
  (a1 = 5 →
   w_X11_sumOf a1 u (fun v12 u11 =>
   Q v12 u11)) ∧
  (a1 = 6 →
   w_X11_actsOfHabit u (fun v15 u14 =>
   Q v15 u14)) ∧
  (a1 = 7 →
   w_X11_sumOf a1 u (fun v18 u17 =>
   Q v18 u17)) ∧
  (a1 = 8 →
   Q (u.1 1 24) u) ∧
  ((a1.toInt < 0 ∨ 8 < a1.toInt) →
   Q (-2) u)
set_option maxRecDepth 10000 in
theorem m_X11_count {a1 : Int32} {u : gg_M}  {G : gg_T} {Q : Int32 → gg_M → Prop} (hG : gg_Cl none cX11_count 2 RX11 (some .int) 6 (gg_eI Q) G)  (h : w_X11_count a1 u  Q)   : G 0 [some (.ref 1), some (.int a1)] [] u := by
  unfold w_X11_count at h
  refine gg_iload_n hG dX11_count_0 rfl rfl ?_
  by_cases c1 : a1 = 0
  · refine gg_tabIn (off := 51) (tgt := 52) hG dX11_count_1 (by rw [c1]; decide) (by rw [c1]; decide) (by rw [c1]; decide) (by decide) ?_
    replace h := h.1 c1
    refine gg_aload_n hG dX11_count_52 rfl rfl ?_
    refine gg_get (v := .ref 48) hG dX11_count_53 (by decide) rfl fl_RX11_13 rfl ?_
    refine gg_iload_n hG dX11_count_56 rfl rfl ?_
    obtain ⟨h2, h⟩ := h
    refine gg_iald (j := a1.toNatClampNeg) hG dX11_count_57 (by decide) rfl h2 rfl ?_
    exact gg_iret hG dX11_count_58 rfl rfl ⟨_, rfl, h⟩
  by_cases c3 : a1 = 1
  · refine gg_tabIn (off := 51) (tgt := 52) hG dX11_count_1 (by rw [c3]; decide) (by rw [c3]; decide) (by rw [c3]; decide) (by decide) ?_
    replace h := h.2.1 c3
    refine gg_aload_n hG dX11_count_52 rfl rfl ?_
    refine gg_get (v := .ref 48) hG dX11_count_53 (by decide) rfl fl_RX11_13 rfl ?_
    refine gg_iload_n hG dX11_count_56 rfl rfl ?_
    obtain ⟨h4, h⟩ := h
    refine gg_iald (j := a1.toNatClampNeg) hG dX11_count_57 (by decide) rfl h4 rfl ?_
    exact gg_iret hG dX11_count_58 rfl rfl ⟨_, rfl, h⟩
  by_cases c5 : a1 = 2
  · refine gg_tabIn (off := 58) (tgt := 59) hG dX11_count_1 (by rw [c5]; decide) (by rw [c5]; decide) (by rw [c5]; decide) (by decide) ?_
    replace h := h.2.2.1 c5
    refine gg_aload_n hG dX11_count_59 rfl rfl ?_
    refine gg_get (v := .int (u.1 1 8)) hG dX11_count_60 (by decide) rfl fl_RX11_123 rfl ?_
    exact gg_iret hG dX11_count_63 rfl rfl ⟨_, rfl, h⟩
  by_cases c6 : a1 = 3
  · refine gg_tabIn (off := 63) (tgt := 64) hG dX11_count_1 (by rw [c6]; decide) (by rw [c6]; decide) (by rw [c6]; decide) (by decide) ?_
    replace h := h.2.2.2.1 c6
    refine gg_aload_n hG dX11_count_64 rfl rfl ?_
    refine gg_xv (As := []) (st := []) hG dX11_count_65 ml_RX11_154 Y_X11_leftNow YV_X11_leftNow (by decide) ⟨_, rfl, rfl⟩ (mt_X11_leftNow h) rfl (by decide) (Nat.le_of_ble_eq_true rfl) rfl (gg_ki (fun v8 u7 h => ?_))
    exact gg_iret hG dX11_count_68 rfl rfl ⟨_, rfl, h⟩
  by_cases c9 : a1 = 4
  · refine gg_tabIn (off := 68) (tgt := 69) hG dX11_count_1 (by rw [c9]; decide) (by rw [c9]; decide) (by rw [c9]; decide) (by decide) ?_
    replace h := h.2.2.2.2.1 c9
    refine gg_aload_n hG dX11_count_69 rfl rfl ?_
    refine gg_get (v := .int (u.1 1 15)) hG dX11_count_70 (by decide) rfl fl_RX11_226 rfl ?_
    exact gg_iret hG dX11_count_73 rfl rfl ⟨_, rfl, h⟩
  by_cases c10 : a1 = 5
  · refine gg_tabIn (off := 73) (tgt := 74) hG dX11_count_1 (by rw [c10]; decide) (by rw [c10]; decide) (by rw [c10]; decide) (by decide) ?_
    replace h := h.2.2.2.2.2.1 c10
    refine gg_aload_n hG dX11_count_74 rfl rfl ?_
    refine gg_iload_n hG dX11_count_75 rfl rfl ?_
    refine gg_xv (As := [.int a1]) (st := []) hG dX11_count_76 ml_RX11_255 Y_X11_sumOf YV_X11_sumOf (by decide) ⟨_, rfl, rfl⟩ (mt_X11_sumOf h) rfl (by decide) (Nat.le_of_ble_eq_true rfl) rfl (gg_ki (fun v12 u11 h => ?_))
    exact gg_iret hG dX11_count_79 rfl rfl ⟨_, rfl, h⟩
  by_cases c13 : a1 = 6
  · refine gg_tabIn (off := 79) (tgt := 80) hG dX11_count_1 (by rw [c13]; decide) (by rw [c13]; decide) (by rw [c13]; decide) (by decide) ?_
    replace h := h.2.2.2.2.2.2.1 c13
    refine gg_aload_n hG dX11_count_80 rfl rfl ?_
    refine gg_xv (As := []) (st := []) hG dX11_count_81 ml_RX11_258 Y_X11_actsOfHabit YV_X11_actsOfHabit (by decide) ⟨_, rfl, rfl⟩ (mt_X11_actsOfHabit h) rfl (by decide) (Nat.le_of_ble_eq_true rfl) rfl (gg_ki (fun v15 u14 h => ?_))
    exact gg_iret hG dX11_count_84 rfl rfl ⟨_, rfl, h⟩
  by_cases c16 : a1 = 7
  · refine gg_tabIn (off := 73) (tgt := 74) hG dX11_count_1 (by rw [c16]; decide) (by rw [c16]; decide) (by rw [c16]; decide) (by decide) ?_
    replace h := h.2.2.2.2.2.2.2.1 c16
    refine gg_aload_n hG dX11_count_74 rfl rfl ?_
    refine gg_iload_n hG dX11_count_75 rfl rfl ?_
    refine gg_xv (As := [.int a1]) (st := []) hG dX11_count_76 ml_RX11_255 Y_X11_sumOf YV_X11_sumOf (by decide) ⟨_, rfl, rfl⟩ (mt_X11_sumOf h) rfl (by decide) (Nat.le_of_ble_eq_true rfl) rfl (gg_ki (fun v18 u17 h => ?_))
    exact gg_iret hG dX11_count_79 rfl rfl ⟨_, rfl, h⟩
  by_cases c19 : a1 = 8
  · refine gg_tabIn (off := 84) (tgt := 85) hG dX11_count_1 (by rw [c19]; decide) (by rw [c19]; decide) (by rw [c19]; decide) (by decide) ?_
    replace h := h.2.2.2.2.2.2.2.2.1 c19
    refine gg_aload_n hG dX11_count_85 rfl rfl ?_
    refine gg_get (v := .int (u.1 1 24)) hG dX11_count_86 (by decide) rfl fl_RX11_245 rfl ?_
    exact gg_iret hG dX11_count_89 rfl rfl ⟨_, rfl, h⟩
  have hsw : a1.toInt < 0 ∨ 8 < a1.toInt := by
    have nc1 := lv_neT (a := 0) c1 (by decide)
    have nc3 := lv_neT (a := 1) c3 (by decide)
    have nc5 := lv_neT (a := 2) c5 (by decide)
    have nc6 := lv_neT (a := 3) c6 (by decide)
    have nc9 := lv_neT (a := 4) c9 (by decide)
    have nc10 := lv_neT (a := 5) c10 (by decide)
    have nc13 := lv_neT (a := 6) c13 (by decide)
    have nc16 := lv_neT (a := 7) c16 (by decide)
    have nc19 := lv_neT (a := 8) c19 (by decide)
    omega
  refine gg_tabOut (tgt := 90) hG dX11_count_1 hsw (by decide) ?_
  replace h := h.2.2.2.2.2.2.2.2.2 hsw
  refine gg_bipush (v := (-2)) hG dX11_count_90 (by decide) ?_
  exact gg_iret hG dX11_count_92 rfl rfl ⟨_, rfl, h⟩
theorem mt_X11_count {a1 : Int32}  {u : gg_M} {Q : Int32 → gg_M → Prop} (h : w_X11_count a1 u Q) : gg_Mt 6 yX11_count cX11_count 2 (some .int) [.ref 1, .int a1] u (gg_eI Q) :=
  gg_intro (own := RX11) (by decide +kernel) rfl rfl (Nat.le_of_ble_eq_true rfl) (fun G hG => m_X11_count hG  h)
/-! X11_digest -/
def b_X11_digest_c358  (a1 : Int64) (a3 : Int32) (u : gg_M)  (k358 : Int64 × Int32 × gg_M → Prop) (Q : Int64 → gg_M → Prop) : Prop :=
  (4 ≤ a3 →
   Q a1 u) ∧
  (¬ 4 ≤ a3 →
   w_X11_fitsNow a3 u (fun v3 u2 =>
   ∀ v4 : Int64, v4 = (((31 : Int64) * a1) + v3.toInt64) →
   k358 (v4, (a3 + 1), u2)))
set_option maxRecDepth 10000 in
theorem mb_X11_digest_c358  {a1 : Int64} {a3 : Int32} {u : gg_M}  {k358 : Int64 × Int32 × gg_M → Prop} {G : gg_T} {Q : Int64 → gg_M → Prop} (hG : gg_Cl none cX11_digest 5 RX11 (some .long) 8 (gg_eJ Q) G)  (h : b_X11_digest_c358 a1 a3 u k358 Q)   (hk358 : ∀ s : Int64 × Int32 × gg_M, k358 s → G 358 [some (.ref 1), some (.long s.1), none, some (.int s.2.1), none] [] s.2.2) : G 358 [some (.ref 1), some (.long a1), none, some (.int a3), none] [] u := by
  unfold b_X11_digest_c358 at h
  refine gg_iload_n hG dX11_digest_358 rfl rfl ?_
  refine gg_iconst (v := 4) hG dX11_digest_359 (by decide) ?_
  refine gg_ic_ge (tgt := 382) hG dX11_digest_360 (by decide) (fun c1 => ?_) (fun c1 => ?_)
  · replace h := h.1 c1
    refine gg_lload_n hG dX11_digest_382 rfl rfl ?_
    exact gg_lret hG dX11_digest_383 rfl ⟨_, rfl, h⟩
  · replace h := h.2 c1
    refine gg_ldc2 hG dX11_digest_363 fc_RX11_263 ?_
    refine gg_lload_n hG dX11_digest_366 rfl rfl ?_
    refine gg_lmul hG dX11_digest_367 ?_
    refine gg_aload_n hG dX11_digest_368 rfl rfl ?_
    refine gg_iload_n hG dX11_digest_369 rfl rfl ?_
    refine gg_xv (As := [.int a3]) (st := [.long ((31 : Int64) * a1)]) hG dX11_digest_370 ml_RX11_242 Y_X11_fitsNow YV_X11_fitsNow (by decide) ⟨_, rfl, rfl⟩ (mt_X11_fitsNow h) rfl (by decide) (Nat.le_of_ble_eq_true rfl) rfl (gg_ki (fun v3 u2 h => ?_))
    refine gg_i2l hG dX11_digest_373 ?_
    refine gg_ladd hG dX11_digest_374 ?_
    refine gg_nl (fun v4 e4 => ?_)
    replace h := h v4 e4
    refine gg_lstore_n (L1 := [some (.ref 1), some (.long v4), none, some (.int a3), none]) hG dX11_digest_375 rfl (by decide) rfl ?_
    refine gg_iinc (v := (a3 + 1)) (L1 := [some (.ref 1), some (.long v4), none, some (.int (a3 + 1)), none]) hG dX11_digest_376 rfl rfl (by decide) rfl ?_
    refine gg_goto (tgt := 358) hG dX11_digest_379 (by decide) ?_
    exact hk358 _ h
def w_X11_digest_c358 (a1 : Int64) (a3 : Int32) (u : gg_M)  (Q : Int64 → gg_M → Prop) : Prop :=
  gg_loop (fun (s : Int64 × Int32 × gg_M) k358 => b_X11_digest_c358  s.1 s.2.1 s.2.2  k358 Q) (a1, a3, u)
set_option maxRecDepth 10000 in
theorem m_X11_digest_c358 {a1 : Int64} {a3 : Int32} {u : gg_M}  {G : gg_T} {Q : Int64 → gg_M → Prop} (hG : gg_Cl none cX11_digest 5 RX11 (some .long) 8 (gg_eJ Q) G)  (h : w_X11_digest_c358 a1 a3 u  Q)   : G 358 [some (.ref 1), some (.long a1), none, some (.int a3), none] [] u :=
  gg_loop_use (P := fun s : Int64 × Int32 × gg_M => G 358 [some (.ref 1), some (.long s.1), none, some (.int s.2.1), none] [] s.2.2) h (fun s rc hb hr => mb_X11_digest_c358 hG  hb   hr)
def w_X11_digest_c322 (a3 : Int32) (a4 : Int32) (z0 : Int64) (z2 : Int32) (u : gg_M) (k282 : Int64 × Int32 × gg_M → Prop) (k290 : Int64 × Int32 × gg_M → Prop) (Q : Int64 → gg_M → Prop) : Prop :=
  w_X11_stateNow z2 a4 u (fun v6 u5 =>
  ∀ v7 : Int64, v7 = (z0 + v6.toInt64) →
  k290 (v7, (a4 + 1), u5))
set_option maxRecDepth 10000 in
theorem m_X11_digest_c322 {a3 : Int32} {a4 : Int32} {z0 : Int64} {z2 : Int32} {u : gg_M} {k282 : Int64 × Int32 × gg_M → Prop} {k290 : Int64 × Int32 × gg_M → Prop} {G : gg_T} {Q : Int64 → gg_M → Prop} (hG : gg_Cl none cX11_digest 5 RX11 (some .long) 8 (gg_eJ Q) G)  (h : w_X11_digest_c322 a3 a4 z0 z2 u k282 k290 Q)  (hk282 : ∀ s : Int64 × Int32 × gg_M, k282 s → G 282 [some (.ref 1), some (.long s.1), none, some (.int s.2.1), none] [] s.2.2) (hk290 : ∀ s : Int64 × Int32 × gg_M, k290 s → G 290 [some (.ref 1), some (.long s.1), none, some (.int a3), some (.int s.2.1)] [] s.2.2) : G 322 [some (.ref 1), none, none, some (.int a3), some (.int a4)] [.int z2, .ref 1, .long z0] u := by
  unfold w_X11_digest_c322 at h
  refine gg_iload hG dX11_digest_322 rfl ?_
  refine gg_xv (As := [.int z2, .int a4]) (st := [.long z0]) hG dX11_digest_324 ml_RX11_171 Y_X11_stateNow YV_X11_stateNow (by decide) ⟨_, rfl, rfl⟩ (mt_X11_stateNow h) rfl (by decide) (Nat.le_of_ble_eq_true rfl) rfl (gg_ki (fun v6 u5 h => ?_))
  refine gg_i2l hG dX11_digest_327 ?_
  refine gg_ladd hG dX11_digest_328 ?_
  refine gg_nl (fun v7 e7 => ?_)
  replace h := h v7 e7
  refine gg_lstore_n (L1 := [some (.ref 1), some (.long v7), none, some (.int a3), some (.int a4)]) hG dX11_digest_329 rfl (by decide) rfl ?_
  refine gg_iinc (v := (a4 + 1)) (L1 := [some (.ref 1), some (.long v7), none, some (.int a3), some (.int (a4 + 1))]) hG dX11_digest_330 rfl rfl (by decide) rfl ?_
  refine gg_goto (tgt := 290) hG dX11_digest_333 (by decide) ?_
  exact hk290 _ h
def b_X11_digest_c290 (a3 : Int32) (a1 : Int64) (a4 : Int32) (u : gg_M) (k282 : Int64 × Int32 × gg_M → Prop) (k290 : Int64 × Int32 × gg_M → Prop) (Q : Int64 → gg_M → Prop) : Prop :=
  (8 ≤ a4 →
   k282 (a1, (a3 + 1), u)) ∧
  (¬ 8 ≤ a4 →
   (¬ a3 = 0 →
    (¬ a3 = 1 →
     w_X11_digest_c322 a3 a4 ((31 : Int64) * a1) 31 u k282 k290 Q) ∧
    (a3 = 1 →
     w_X11_digest_c322 a3 a4 ((31 : Int64) * a1) 3 u k282 k290 Q)) ∧
   (a3 = 0 →
    w_X11_digest_c322 a3 a4 ((31 : Int64) * a1) 0 u k282 k290 Q))
set_option maxRecDepth 10000 in
theorem mb_X11_digest_c290 {a3 : Int32} {a1 : Int64} {a4 : Int32} {u : gg_M} {k282 : Int64 × Int32 × gg_M → Prop} {k290 : Int64 × Int32 × gg_M → Prop} {G : gg_T} {Q : Int64 → gg_M → Prop} (hG : gg_Cl none cX11_digest 5 RX11 (some .long) 8 (gg_eJ Q) G)  (h : b_X11_digest_c290 a3 a1 a4 u k282 k290 Q)  (hk282 : ∀ s : Int64 × Int32 × gg_M, k282 s → G 282 [some (.ref 1), some (.long s.1), none, some (.int s.2.1), none] [] s.2.2) (hk290 : ∀ s : Int64 × Int32 × gg_M, k290 s → G 290 [some (.ref 1), some (.long s.1), none, some (.int a3), some (.int s.2.1)] [] s.2.2) : G 290 [some (.ref 1), some (.long a1), none, some (.int a3), some (.int a4)] [] u := by
  unfold b_X11_digest_c290 at h
  refine gg_iload hG dX11_digest_290 rfl ?_
  refine gg_bipush (v := 8) hG dX11_digest_292 (by decide) ?_
  refine gg_ic_ge (tgt := 336) hG dX11_digest_294 (by decide) (fun c8 => ?_) (fun c8 => ?_)
  · replace h := h.1 c8
    refine gg_iinc (v := (a3 + 1)) (L1 := [some (.ref 1), some (.long a1), none, some (.int (a3 + 1)), some (.int a4)]) hG dX11_digest_336 rfl rfl (by decide) rfl ?_
    refine gg_goto (tgt := 282) hG dX11_digest_339 (by decide) ?_
    refine gg_mk hG [true, true, false, true, false] rfl ?_
    exact hk282 _ h
  · replace h := h.2 c8
    refine gg_ldc2 hG dX11_digest_297 fc_RX11_263 ?_
    refine gg_lload_n hG dX11_digest_300 rfl rfl ?_
    refine gg_lmul hG dX11_digest_301 ?_
    refine gg_aload_n hG dX11_digest_302 rfl rfl ?_
    refine gg_iload_n hG dX11_digest_303 rfl rfl ?_
    refine gg_if_ne (tgt := 311) hG dX11_digest_304 (by decide) (fun c9 => ?_) (fun c9 => ?_)
    · replace h := h.1 c9
      refine gg_iload_n hG dX11_digest_311 rfl rfl ?_
      refine gg_iconst (v := 1) hG dX11_digest_312 (by decide) ?_
      refine gg_ic_ne (tgt := 320) hG dX11_digest_313 (by decide) (fun c10 => ?_) (fun c10 => ?_)
      · replace h := h.1 c10
        refine gg_bipush (v := 31) hG dX11_digest_320 (by decide) ?_
        refine gg_mk hG [true, false, false, true, true] rfl ?_
        exact m_X11_digest_c322 hG h hk282 hk290
      · replace h := h.2 c10
        refine gg_iconst (v := 3) hG dX11_digest_316 (by decide) ?_
        refine gg_goto (tgt := 322) hG dX11_digest_317 (by decide) ?_
        refine gg_mk hG [true, false, false, true, true] rfl ?_
        exact m_X11_digest_c322 hG h hk282 hk290
    · replace h := h.2 c9
      refine gg_iconst (v := 0) hG dX11_digest_307 (by decide) ?_
      refine gg_goto (tgt := 322) hG dX11_digest_308 (by decide) ?_
      refine gg_mk hG [true, false, false, true, true] rfl ?_
      exact m_X11_digest_c322 hG h hk282 hk290
def w_X11_digest_c290 (a1 : Int64) (a3 : Int32) (a4 : Int32) (u : gg_M) (k282 : Int64 × Int32 × gg_M → Prop) (Q : Int64 → gg_M → Prop) : Prop :=
  gg_loop (fun (s : Int64 × Int32 × gg_M) k290 => b_X11_digest_c290 a3 s.1 s.2.1 s.2.2 k282 k290 Q) (a1, a4, u)
set_option maxRecDepth 10000 in
theorem m_X11_digest_c290 {a1 : Int64} {a3 : Int32} {a4 : Int32} {u : gg_M} {k282 : Int64 × Int32 × gg_M → Prop} {G : gg_T} {Q : Int64 → gg_M → Prop} (hG : gg_Cl none cX11_digest 5 RX11 (some .long) 8 (gg_eJ Q) G)  (h : w_X11_digest_c290 a1 a3 a4 u k282 Q)  (hk282 : ∀ s : Int64 × Int32 × gg_M, k282 s → G 282 [some (.ref 1), some (.long s.1), none, some (.int s.2.1), none] [] s.2.2) : G 290 [some (.ref 1), some (.long a1), none, some (.int a3), some (.int a4)] [] u :=
  gg_loop_use (P := fun s : Int64 × Int32 × gg_M => G 290 [some (.ref 1), some (.long s.1), none, some (.int a3), some (.int s.2.1)] [] s.2.2) h (fun s rc hb hr => mb_X11_digest_c290 hG  hb  hk282 hr)
def b_X11_digest_c282  (a1 : Int64) (a3 : Int32) (u : gg_M)  (k282 : Int64 × Int32 × gg_M → Prop) (Q : Int64 → gg_M → Prop) : Prop :=
  (3 ≤ a3 →
   w_X11_drownedNow 0 3 u (fun v13 u12 =>
   ∀ v14 : Int64, v14 = (((31 : Int64) * a1) + v13.toInt64) →
   w_X11_digest_c358 v14 0 u12 Q)) ∧
  (¬ 3 ≤ a3 →
   w_X11_digest_c290 a1 a3 0 u k282 Q)
set_option maxRecDepth 10000 in
theorem mb_X11_digest_c282  {a1 : Int64} {a3 : Int32} {u : gg_M}  {k282 : Int64 × Int32 × gg_M → Prop} {G : gg_T} {Q : Int64 → gg_M → Prop} (hG : gg_Cl none cX11_digest 5 RX11 (some .long) 8 (gg_eJ Q) G)  (h : b_X11_digest_c282 a1 a3 u k282 Q)   (hk282 : ∀ s : Int64 × Int32 × gg_M, k282 s → G 282 [some (.ref 1), some (.long s.1), none, some (.int s.2.1), none] [] s.2.2) : G 282 [some (.ref 1), some (.long a1), none, some (.int a3), none] [] u := by
  unfold b_X11_digest_c282 at h
  refine gg_iload_n hG dX11_digest_282 rfl rfl ?_
  refine gg_iconst (v := 3) hG dX11_digest_283 (by decide) ?_
  refine gg_ic_ge (tgt := 342) hG dX11_digest_284 (by decide) (fun c11 => ?_) (fun c11 => ?_)
  · replace h := h.1 c11
    refine gg_ldc2 hG dX11_digest_342 fc_RX11_263 ?_
    refine gg_lload_n hG dX11_digest_345 rfl rfl ?_
    refine gg_lmul hG dX11_digest_346 ?_
    refine gg_aload_n hG dX11_digest_347 rfl rfl ?_
    refine gg_iconst (v := 0) hG dX11_digest_348 (by decide) ?_
    refine gg_iconst (v := 3) hG dX11_digest_349 (by decide) ?_
    refine gg_xv (As := [.int 0, .int 3]) (st := [.long ((31 : Int64) * a1)]) hG dX11_digest_350 ml_RX11_223 Y_X11_drownedNow YV_X11_drownedNow (by decide) ⟨_, rfl, rfl⟩ (mt_X11_drownedNow h) rfl (by decide) (Nat.le_of_ble_eq_true rfl) rfl (gg_ki (fun v13 u12 h => ?_))
    refine gg_i2l hG dX11_digest_353 ?_
    refine gg_ladd hG dX11_digest_354 ?_
    refine gg_nl (fun v14 e14 => ?_)
    replace h := h v14 e14
    refine gg_lstore_n (L1 := [some (.ref 1), some (.long v14), none, some (.int a3), none]) hG dX11_digest_355 rfl (by decide) rfl ?_
    refine gg_iconst (v := 0) hG dX11_digest_356 (by decide) ?_
    refine gg_istore_n (L1 := [some (.ref 1), some (.long v14), none, some (.int 0), none]) hG dX11_digest_357 rfl (by decide) rfl ?_
    exact m_X11_digest_c358 hG h
  · replace h := h.2 c11
    refine gg_iconst (v := 0) hG dX11_digest_287 (by decide) ?_
    refine gg_istore (L1 := [some (.ref 1), some (.long a1), none, some (.int a3), some (.int 0)]) hG dX11_digest_288 (by decide) rfl ?_
    exact m_X11_digest_c290 hG h hk282
def w_X11_digest_c282 (a1 : Int64) (a3 : Int32) (u : gg_M)  (Q : Int64 → gg_M → Prop) : Prop :=
  gg_loop (fun (s : Int64 × Int32 × gg_M) k282 => b_X11_digest_c282  s.1 s.2.1 s.2.2  k282 Q) (a1, a3, u)
set_option maxRecDepth 10000 in
theorem m_X11_digest_c282 {a1 : Int64} {a3 : Int32} {u : gg_M}  {G : gg_T} {Q : Int64 → gg_M → Prop} (hG : gg_Cl none cX11_digest 5 RX11 (some .long) 8 (gg_eJ Q) G)  (h : w_X11_digest_c282 a1 a3 u  Q)   : G 282 [some (.ref 1), some (.long a1), none, some (.int a3), none] [] u :=
  gg_loop_use (P := fun s : Int64 × Int32 × gg_M => G 282 [some (.ref 1), some (.long s.1), none, some (.int s.2.1), none] [] s.2.2) h (fun s rc hb hr => mb_X11_digest_c282 hG  hb   hr)
def b_X11_digest_c218  (a1 : Int64) (a3 : Int32) (u : gg_M)  (k218 : Int64 × Int32 × gg_M → Prop) (Q : Int64 → gg_M → Prop) : Prop :=
  (2 ≤ a3 →
   w_X11_hasNow (-1) u (fun v17 u16 =>
   ∀ v18 : Int64, v18 = (((31 : Int64) * a1) + v17.toInt64) →
   w_X11_workNow 2 u16 (fun v20 u19 =>
   ∀ v21 : Int64, v21 = (((31 : Int64) * v18) + v20) →
   w_X11_digest_c282 v21 0 u19 Q))) ∧
  (¬ 2 ≤ a3 →
   w_X11_habitOf a3 0 u (fun v23 u22 =>
   ∀ v24 : Int64, v24 = (((31 : Int64) * a1) + v23) →
   w_X11_habitOf a3 1 u22 (fun v26 u25 =>
   ∀ v27 : Int64, v27 = (((31 : Int64) * v24) + v26) →
   k218 (v27, (a3 + 1), u25))))
set_option maxRecDepth 10000 in
theorem mb_X11_digest_c218  {a1 : Int64} {a3 : Int32} {u : gg_M}  {k218 : Int64 × Int32 × gg_M → Prop} {G : gg_T} {Q : Int64 → gg_M → Prop} (hG : gg_Cl none cX11_digest 5 RX11 (some .long) 8 (gg_eJ Q) G)  (h : b_X11_digest_c218 a1 a3 u k218 Q)   (hk218 : ∀ s : Int64 × Int32 × gg_M, k218 s → G 218 [some (.ref 1), some (.long s.1), none, some (.int s.2.1), none] [] s.2.2) : G 218 [some (.ref 1), some (.long a1), none, some (.int a3), none] [] u := by
  unfold b_X11_digest_c218 at h
  refine gg_iload_n hG dX11_digest_218 rfl rfl ?_
  refine gg_iconst (v := 2) hG dX11_digest_219 (by decide) ?_
  refine gg_ic_ge (tgt := 255) hG dX11_digest_220 (by decide) (fun c15 => ?_) (fun c15 => ?_)
  · replace h := h.1 c15
    refine gg_ldc2 hG dX11_digest_255 fc_RX11_263 ?_
    refine gg_lload_n hG dX11_digest_258 rfl rfl ?_
    refine gg_lmul hG dX11_digest_259 ?_
    refine gg_aload_n hG dX11_digest_260 rfl rfl ?_
    refine gg_iconst (v := (-1)) hG dX11_digest_261 (by decide) ?_
    refine gg_xv (As := [.int (-1)]) (st := [.long ((31 : Int64) * a1)]) hG dX11_digest_262 ml_RX11_217 Y_X11_hasNow YV_X11_hasNow (by decide) ⟨_, rfl, rfl⟩ (mt_X11_hasNow h) rfl (by decide) (Nat.le_of_ble_eq_true rfl) rfl (gg_ki (fun v17 u16 h => ?_))
    refine gg_i2l hG dX11_digest_265 ?_
    refine gg_ladd hG dX11_digest_266 ?_
    refine gg_nl (fun v18 e18 => ?_)
    replace h := h v18 e18
    refine gg_lstore_n (L1 := [some (.ref 1), some (.long v18), none, some (.int a3), none]) hG dX11_digest_267 rfl (by decide) rfl ?_
    refine gg_ldc2 hG dX11_digest_268 fc_RX11_263 ?_
    refine gg_lload_n hG dX11_digest_271 rfl rfl ?_
    refine gg_lmul hG dX11_digest_272 ?_
    refine gg_aload_n hG dX11_digest_273 rfl rfl ?_
    refine gg_iconst (v := 2) hG dX11_digest_274 (by decide) ?_
    refine gg_xv (As := [.int 2]) (st := [.long ((31 : Int64) * v18)]) hG dX11_digest_275 ml_RX11_220 Y_X11_workNow YV_X11_workNow (by decide) ⟨_, rfl, rfl⟩ (mt_X11_workNow h) rfl (by decide) (Nat.le_of_ble_eq_true rfl) rfl (gg_kj (fun v20 u19 h => ?_))
    refine gg_ladd hG dX11_digest_278 ?_
    refine gg_nl (fun v21 e21 => ?_)
    replace h := h v21 e21
    refine gg_lstore_n (L1 := [some (.ref 1), some (.long v21), none, some (.int a3), none]) hG dX11_digest_279 rfl (by decide) rfl ?_
    refine gg_iconst (v := 0) hG dX11_digest_280 (by decide) ?_
    refine gg_istore_n (L1 := [some (.ref 1), some (.long v21), none, some (.int 0), none]) hG dX11_digest_281 rfl (by decide) rfl ?_
    exact m_X11_digest_c282 hG h
  · replace h := h.2 c15
    refine gg_ldc2 hG dX11_digest_223 fc_RX11_263 ?_
    refine gg_lload_n hG dX11_digest_226 rfl rfl ?_
    refine gg_lmul hG dX11_digest_227 ?_
    refine gg_aload_n hG dX11_digest_228 rfl rfl ?_
    refine gg_iload_n hG dX11_digest_229 rfl rfl ?_
    refine gg_iconst (v := 0) hG dX11_digest_230 (by decide) ?_
    refine gg_xv (As := [.int a3, .int 0]) (st := [.long ((31 : Int64) * a1)]) hG dX11_digest_231 ml_RX11_214 Y_X11_habitOf YV_X11_habitOf (by decide) ⟨_, rfl, rfl⟩ (mt_X11_habitOf h) rfl (by decide) (Nat.le_of_ble_eq_true rfl) rfl (gg_kj (fun v23 u22 h => ?_))
    refine gg_ladd hG dX11_digest_234 ?_
    refine gg_nl (fun v24 e24 => ?_)
    replace h := h v24 e24
    refine gg_lstore_n (L1 := [some (.ref 1), some (.long v24), none, some (.int a3), none]) hG dX11_digest_235 rfl (by decide) rfl ?_
    refine gg_ldc2 hG dX11_digest_236 fc_RX11_263 ?_
    refine gg_lload_n hG dX11_digest_239 rfl rfl ?_
    refine gg_lmul hG dX11_digest_240 ?_
    refine gg_aload_n hG dX11_digest_241 rfl rfl ?_
    refine gg_iload_n hG dX11_digest_242 rfl rfl ?_
    refine gg_iconst (v := 1) hG dX11_digest_243 (by decide) ?_
    refine gg_xv (As := [.int a3, .int 1]) (st := [.long ((31 : Int64) * v24)]) hG dX11_digest_244 ml_RX11_214 Y_X11_habitOf YV_X11_habitOf (by decide) ⟨_, rfl, rfl⟩ (mt_X11_habitOf h) rfl (by decide) (Nat.le_of_ble_eq_true rfl) rfl (gg_kj (fun v26 u25 h => ?_))
    refine gg_ladd hG dX11_digest_247 ?_
    refine gg_nl (fun v27 e27 => ?_)
    replace h := h v27 e27
    refine gg_lstore_n (L1 := [some (.ref 1), some (.long v27), none, some (.int a3), none]) hG dX11_digest_248 rfl (by decide) rfl ?_
    refine gg_iinc (v := (a3 + 1)) (L1 := [some (.ref 1), some (.long v27), none, some (.int (a3 + 1)), none]) hG dX11_digest_249 rfl rfl (by decide) rfl ?_
    refine gg_goto (tgt := 218) hG dX11_digest_252 (by decide) ?_
    exact hk218 _ h
def w_X11_digest_c218 (a1 : Int64) (a3 : Int32) (u : gg_M)  (Q : Int64 → gg_M → Prop) : Prop :=
  gg_loop (fun (s : Int64 × Int32 × gg_M) k218 => b_X11_digest_c218  s.1 s.2.1 s.2.2  k218 Q) (a1, a3, u)
set_option maxRecDepth 10000 in
theorem m_X11_digest_c218 {a1 : Int64} {a3 : Int32} {u : gg_M}  {G : gg_T} {Q : Int64 → gg_M → Prop} (hG : gg_Cl none cX11_digest 5 RX11 (some .long) 8 (gg_eJ Q) G)  (h : w_X11_digest_c218 a1 a3 u  Q)   : G 218 [some (.ref 1), some (.long a1), none, some (.int a3), none] [] u :=
  gg_loop_use (P := fun s : Int64 × Int32 × gg_M => G 218 [some (.ref 1), some (.long s.1), none, some (.int s.2.1), none] [] s.2.2) h (fun s rc hb hr => mb_X11_digest_c218 hG  hb   hr)
def b_X11_digest_c192  (a1 : Int64) (a3 : Int32) (u : gg_M)  (k192 : Int64 × Int32 × gg_M → Prop) (Q : Int64 → gg_M → Prop) : Prop :=
  (3 ≤ a3 →
   w_X11_digest_c218 a1 0 u Q) ∧
  (¬ 3 ≤ a3 →
   w_X11_bestNow 2 a3 u (fun v30 u29 =>
   ∀ v31 : Int64, v31 = (((31 : Int64) * a1) + v30) →
   k192 (v31, (a3 + 1), u29)))
set_option maxRecDepth 10000 in
theorem mb_X11_digest_c192  {a1 : Int64} {a3 : Int32} {u : gg_M}  {k192 : Int64 × Int32 × gg_M → Prop} {G : gg_T} {Q : Int64 → gg_M → Prop} (hG : gg_Cl none cX11_digest 5 RX11 (some .long) 8 (gg_eJ Q) G)  (h : b_X11_digest_c192 a1 a3 u k192 Q)   (hk192 : ∀ s : Int64 × Int32 × gg_M, k192 s → G 192 [some (.ref 1), some (.long s.1), none, some (.int s.2.1), none] [] s.2.2) : G 192 [some (.ref 1), some (.long a1), none, some (.int a3), none] [] u := by
  unfold b_X11_digest_c192 at h
  refine gg_iload_n hG dX11_digest_192 rfl rfl ?_
  refine gg_iconst (v := 3) hG dX11_digest_193 (by decide) ?_
  refine gg_ic_ge (tgt := 216) hG dX11_digest_194 (by decide) (fun c28 => ?_) (fun c28 => ?_)
  · replace h := h.1 c28
    refine gg_iconst (v := 0) hG dX11_digest_216 (by decide) ?_
    refine gg_istore_n (L1 := [some (.ref 1), some (.long a1), none, some (.int 0), none]) hG dX11_digest_217 rfl (by decide) rfl ?_
    exact m_X11_digest_c218 hG h
  · replace h := h.2 c28
    refine gg_ldc2 hG dX11_digest_197 fc_RX11_263 ?_
    refine gg_lload_n hG dX11_digest_200 rfl rfl ?_
    refine gg_lmul hG dX11_digest_201 ?_
    refine gg_aload_n hG dX11_digest_202 rfl rfl ?_
    refine gg_iconst (v := 2) hG dX11_digest_203 (by decide) ?_
    refine gg_iload_n hG dX11_digest_204 rfl rfl ?_
    refine gg_xv (As := [.int 2, .int a3]) (st := [.long ((31 : Int64) * a1)]) hG dX11_digest_205 ml_RX11_203 Y_X11_bestNow YV_X11_bestNow (by decide) ⟨_, rfl, rfl⟩ (mt_X11_bestNow h) rfl (by decide) (Nat.le_of_ble_eq_true rfl) rfl (gg_kj (fun v30 u29 h => ?_))
    refine gg_ladd hG dX11_digest_208 ?_
    refine gg_nl (fun v31 e31 => ?_)
    replace h := h v31 e31
    refine gg_lstore_n (L1 := [some (.ref 1), some (.long v31), none, some (.int a3), none]) hG dX11_digest_209 rfl (by decide) rfl ?_
    refine gg_iinc (v := (a3 + 1)) (L1 := [some (.ref 1), some (.long v31), none, some (.int (a3 + 1)), none]) hG dX11_digest_210 rfl rfl (by decide) rfl ?_
    refine gg_goto (tgt := 192) hG dX11_digest_213 (by decide) ?_
    exact hk192 _ h
def w_X11_digest_c192 (a1 : Int64) (a3 : Int32) (u : gg_M)  (Q : Int64 → gg_M → Prop) : Prop :=
  gg_loop (fun (s : Int64 × Int32 × gg_M) k192 => b_X11_digest_c192  s.1 s.2.1 s.2.2  k192 Q) (a1, a3, u)
set_option maxRecDepth 10000 in
theorem m_X11_digest_c192 {a1 : Int64} {a3 : Int32} {u : gg_M}  {G : gg_T} {Q : Int64 → gg_M → Prop} (hG : gg_Cl none cX11_digest 5 RX11 (some .long) 8 (gg_eJ Q) G)  (h : w_X11_digest_c192 a1 a3 u  Q)   : G 192 [some (.ref 1), some (.long a1), none, some (.int a3), none] [] u :=
  gg_loop_use (P := fun s : Int64 × Int32 × gg_M => G 192 [some (.ref 1), some (.long s.1), none, some (.int s.2.1), none] [] s.2.2) h (fun s rc hb hr => mb_X11_digest_c192 hG  hb   hr)
def b_X11_digest_c165  (a1 : Int64) (a3 : Int32) (u : gg_M)  (k165 : Int64 × Int32 × gg_M → Prop) (Q : Int64 → gg_M → Prop) : Prop :=
  (10 ≤ a3 →
   w_X11_digest_c192 a1 0 u Q) ∧
  (¬ 10 ≤ a3 →
   w_X11_partsNow a3 u (fun v34 u33 =>
   ∀ v35 : Int64, v35 = (((31 : Int64) * a1) + v34.toInt64) →
   k165 (v35, (a3 + 1), u33)))
set_option maxRecDepth 10000 in
theorem mb_X11_digest_c165  {a1 : Int64} {a3 : Int32} {u : gg_M}  {k165 : Int64 × Int32 × gg_M → Prop} {G : gg_T} {Q : Int64 → gg_M → Prop} (hG : gg_Cl none cX11_digest 5 RX11 (some .long) 8 (gg_eJ Q) G)  (h : b_X11_digest_c165 a1 a3 u k165 Q)   (hk165 : ∀ s : Int64 × Int32 × gg_M, k165 s → G 165 [some (.ref 1), some (.long s.1), none, some (.int s.2.1), none] [] s.2.2) : G 165 [some (.ref 1), some (.long a1), none, some (.int a3), none] [] u := by
  unfold b_X11_digest_c165 at h
  refine gg_iload_n hG dX11_digest_165 rfl rfl ?_
  refine gg_bipush (v := 10) hG dX11_digest_166 (by decide) ?_
  refine gg_ic_ge (tgt := 190) hG dX11_digest_168 (by decide) (fun c32 => ?_) (fun c32 => ?_)
  · replace h := h.1 c32
    refine gg_iconst (v := 0) hG dX11_digest_190 (by decide) ?_
    refine gg_istore_n (L1 := [some (.ref 1), some (.long a1), none, some (.int 0), none]) hG dX11_digest_191 rfl (by decide) rfl ?_
    exact m_X11_digest_c192 hG h
  · replace h := h.2 c32
    refine gg_ldc2 hG dX11_digest_171 fc_RX11_263 ?_
    refine gg_lload_n hG dX11_digest_174 rfl rfl ?_
    refine gg_lmul hG dX11_digest_175 ?_
    refine gg_aload_n hG dX11_digest_176 rfl rfl ?_
    refine gg_iload_n hG dX11_digest_177 rfl rfl ?_
    refine gg_xv (As := [.int a3]) (st := [.long ((31 : Int64) * a1)]) hG dX11_digest_178 ml_RX11_194 Y_X11_partsNow YV_X11_partsNow (by decide) ⟨_, rfl, rfl⟩ (mt_X11_partsNow h) rfl (by decide) (Nat.le_of_ble_eq_true rfl) rfl (gg_ki (fun v34 u33 h => ?_))
    refine gg_i2l hG dX11_digest_181 ?_
    refine gg_ladd hG dX11_digest_182 ?_
    refine gg_nl (fun v35 e35 => ?_)
    replace h := h v35 e35
    refine gg_lstore_n (L1 := [some (.ref 1), some (.long v35), none, some (.int a3), none]) hG dX11_digest_183 rfl (by decide) rfl ?_
    refine gg_iinc (v := (a3 + 1)) (L1 := [some (.ref 1), some (.long v35), none, some (.int (a3 + 1)), none]) hG dX11_digest_184 rfl rfl (by decide) rfl ?_
    refine gg_goto (tgt := 165) hG dX11_digest_187 (by decide) ?_
    exact hk165 _ h
def w_X11_digest_c165 (a1 : Int64) (a3 : Int32) (u : gg_M)  (Q : Int64 → gg_M → Prop) : Prop :=
  gg_loop (fun (s : Int64 × Int32 × gg_M) k165 => b_X11_digest_c165  s.1 s.2.1 s.2.2  k165 Q) (a1, a3, u)
set_option maxRecDepth 10000 in
theorem m_X11_digest_c165 {a1 : Int64} {a3 : Int32} {u : gg_M}  {G : gg_T} {Q : Int64 → gg_M → Prop} (hG : gg_Cl none cX11_digest 5 RX11 (some .long) 8 (gg_eJ Q) G)  (h : w_X11_digest_c165 a1 a3 u  Q)   : G 165 [some (.ref 1), some (.long a1), none, some (.int a3), none] [] u :=
  gg_loop_use (P := fun s : Int64 × Int32 × gg_M => G 165 [some (.ref 1), some (.long s.1), none, some (.int s.2.1), none] [] s.2.2) h (fun s rc hb hr => mb_X11_digest_c165 hG  hb   hr)
def b_X11_digest_c123  (a1 : Int64) (a3 : Int32) (u : gg_M)  (k123 : Int64 × Int32 × gg_M → Prop) (Q : Int64 → gg_M → Prop) : Prop :=
  (10 ≤ a3 →
   w_X11_digest_c165 a1 0 u Q) ∧
  (¬ 10 ≤ a3 →
   w_X11_chanceNow a3 2 0 u (fun v38 u37 =>
   ∀ v39 : Int64, v39 = (((31 : Int64) * a1) + v38) →
   w_X11_chanceNow a3 2 1 u37 (fun v41 u40 =>
   ∀ v42 : Int64, v42 = (((31 : Int64) * v39) + v41) →
   k123 (v42, (a3 + 1), u40))))
set_option maxRecDepth 10000 in
theorem mb_X11_digest_c123  {a1 : Int64} {a3 : Int32} {u : gg_M}  {k123 : Int64 × Int32 × gg_M → Prop} {G : gg_T} {Q : Int64 → gg_M → Prop} (hG : gg_Cl none cX11_digest 5 RX11 (some .long) 8 (gg_eJ Q) G)  (h : b_X11_digest_c123 a1 a3 u k123 Q)   (hk123 : ∀ s : Int64 × Int32 × gg_M, k123 s → G 123 [some (.ref 1), some (.long s.1), none, some (.int s.2.1), none] [] s.2.2) : G 123 [some (.ref 1), some (.long a1), none, some (.int a3), none] [] u := by
  unfold b_X11_digest_c123 at h
  refine gg_iload_n hG dX11_digest_123 rfl rfl ?_
  refine gg_bipush (v := 10) hG dX11_digest_124 (by decide) ?_
  refine gg_ic_ge (tgt := 163) hG dX11_digest_126 (by decide) (fun c36 => ?_) (fun c36 => ?_)
  · replace h := h.1 c36
    refine gg_iconst (v := 0) hG dX11_digest_163 (by decide) ?_
    refine gg_istore_n (L1 := [some (.ref 1), some (.long a1), none, some (.int 0), none]) hG dX11_digest_164 rfl (by decide) rfl ?_
    exact m_X11_digest_c165 hG h
  · replace h := h.2 c36
    refine gg_ldc2 hG dX11_digest_129 fc_RX11_263 ?_
    refine gg_lload_n hG dX11_digest_132 rfl rfl ?_
    refine gg_lmul hG dX11_digest_133 ?_
    refine gg_aload_n hG dX11_digest_134 rfl rfl ?_
    refine gg_iload_n hG dX11_digest_135 rfl rfl ?_
    refine gg_iconst (v := 2) hG dX11_digest_136 (by decide) ?_
    refine gg_iconst (v := 0) hG dX11_digest_137 (by decide) ?_
    refine gg_xv (As := [.int a3, .int 2, .int 0]) (st := [.long ((31 : Int64) * a1)]) hG dX11_digest_138 ml_RX11_190 Y_X11_chanceNow YV_X11_chanceNow (by decide) ⟨_, rfl, rfl⟩ (mt_X11_chanceNow h) rfl (by decide) (Nat.le_of_ble_eq_true rfl) rfl (gg_kj (fun v38 u37 h => ?_))
    refine gg_ladd hG dX11_digest_141 ?_
    refine gg_nl (fun v39 e39 => ?_)
    replace h := h v39 e39
    refine gg_lstore_n (L1 := [some (.ref 1), some (.long v39), none, some (.int a3), none]) hG dX11_digest_142 rfl (by decide) rfl ?_
    refine gg_ldc2 hG dX11_digest_143 fc_RX11_263 ?_
    refine gg_lload_n hG dX11_digest_146 rfl rfl ?_
    refine gg_lmul hG dX11_digest_147 ?_
    refine gg_aload_n hG dX11_digest_148 rfl rfl ?_
    refine gg_iload_n hG dX11_digest_149 rfl rfl ?_
    refine gg_iconst (v := 2) hG dX11_digest_150 (by decide) ?_
    refine gg_iconst (v := 1) hG dX11_digest_151 (by decide) ?_
    refine gg_xv (As := [.int a3, .int 2, .int 1]) (st := [.long ((31 : Int64) * v39)]) hG dX11_digest_152 ml_RX11_190 Y_X11_chanceNow YV_X11_chanceNow (by decide) ⟨_, rfl, rfl⟩ (mt_X11_chanceNow h) rfl (by decide) (Nat.le_of_ble_eq_true rfl) rfl (gg_kj (fun v41 u40 h => ?_))
    refine gg_ladd hG dX11_digest_155 ?_
    refine gg_nl (fun v42 e42 => ?_)
    replace h := h v42 e42
    refine gg_lstore_n (L1 := [some (.ref 1), some (.long v42), none, some (.int a3), none]) hG dX11_digest_156 rfl (by decide) rfl ?_
    refine gg_iinc (v := (a3 + 1)) (L1 := [some (.ref 1), some (.long v42), none, some (.int (a3 + 1)), none]) hG dX11_digest_157 rfl rfl (by decide) rfl ?_
    refine gg_goto (tgt := 123) hG dX11_digest_160 (by decide) ?_
    exact hk123 _ h
def w_X11_digest_c123 (a1 : Int64) (a3 : Int32) (u : gg_M)  (Q : Int64 → gg_M → Prop) : Prop :=
  gg_loop (fun (s : Int64 × Int32 × gg_M) k123 => b_X11_digest_c123  s.1 s.2.1 s.2.2  k123 Q) (a1, a3, u)
set_option maxRecDepth 10000 in
theorem m_X11_digest_c123 {a1 : Int64} {a3 : Int32} {u : gg_M}  {G : gg_T} {Q : Int64 → gg_M → Prop} (hG : gg_Cl none cX11_digest 5 RX11 (some .long) 8 (gg_eJ Q) G)  (h : w_X11_digest_c123 a1 a3 u  Q)   : G 123 [some (.ref 1), some (.long a1), none, some (.int a3), none] [] u :=
  gg_loop_use (P := fun s : Int64 × Int32 × gg_M => G 123 [some (.ref 1), some (.long s.1), none, some (.int s.2.1), none] [] s.2.2) h (fun s rc hb hr => mb_X11_digest_c123 hG  hb   hr)
def b_X11_digest_c84  (a1 : Int64) (a3 : Int32) (u : gg_M)  (k84 : Int64 × Int32 × gg_M → Prop) (Q : Int64 → gg_M → Prop) : Prop :=
  (5 ≤ a3 →
   w_X11_digest_c123 a1 0 u Q) ∧
  (¬ 5 ≤ a3 →
   w_X11_troubleNow a3 0 u (fun v45 u44 =>
   ∀ v46 : Int64, v46 = (((31 : Int64) * a1) + v45) →
   w_X11_troubleNow a3 1 u44 (fun v48 u47 =>
   ∀ v49 : Int64, v49 = (((31 : Int64) * v46) + v48) →
   k84 (v49, (a3 + 1), u47))))
set_option maxRecDepth 10000 in
theorem mb_X11_digest_c84  {a1 : Int64} {a3 : Int32} {u : gg_M}  {k84 : Int64 × Int32 × gg_M → Prop} {G : gg_T} {Q : Int64 → gg_M → Prop} (hG : gg_Cl none cX11_digest 5 RX11 (some .long) 8 (gg_eJ Q) G)  (h : b_X11_digest_c84 a1 a3 u k84 Q)   (hk84 : ∀ s : Int64 × Int32 × gg_M, k84 s → G 84 [some (.ref 1), some (.long s.1), none, some (.int s.2.1), none] [] s.2.2) : G 84 [some (.ref 1), some (.long a1), none, some (.int a3), none] [] u := by
  unfold b_X11_digest_c84 at h
  refine gg_iload_n hG dX11_digest_84 rfl rfl ?_
  refine gg_iconst (v := 5) hG dX11_digest_85 (by decide) ?_
  refine gg_ic_ge (tgt := 121) hG dX11_digest_86 (by decide) (fun c43 => ?_) (fun c43 => ?_)
  · replace h := h.1 c43
    refine gg_iconst (v := 0) hG dX11_digest_121 (by decide) ?_
    refine gg_istore_n (L1 := [some (.ref 1), some (.long a1), none, some (.int 0), none]) hG dX11_digest_122 rfl (by decide) rfl ?_
    exact m_X11_digest_c123 hG h
  · replace h := h.2 c43
    refine gg_ldc2 hG dX11_digest_89 fc_RX11_263 ?_
    refine gg_lload_n hG dX11_digest_92 rfl rfl ?_
    refine gg_lmul hG dX11_digest_93 ?_
    refine gg_aload_n hG dX11_digest_94 rfl rfl ?_
    refine gg_iload_n hG dX11_digest_95 rfl rfl ?_
    refine gg_iconst (v := 0) hG dX11_digest_96 (by decide) ?_
    refine gg_xv (As := [.int a3, .int 0]) (st := [.long ((31 : Int64) * a1)]) hG dX11_digest_97 ml_RX11_167 Y_X11_troubleNow YV_X11_troubleNow (by decide) ⟨_, rfl, rfl⟩ (mt_X11_troubleNow h) rfl (by decide) (Nat.le_of_ble_eq_true rfl) rfl (gg_kj (fun v45 u44 h => ?_))
    refine gg_ladd hG dX11_digest_100 ?_
    refine gg_nl (fun v46 e46 => ?_)
    replace h := h v46 e46
    refine gg_lstore_n (L1 := [some (.ref 1), some (.long v46), none, some (.int a3), none]) hG dX11_digest_101 rfl (by decide) rfl ?_
    refine gg_ldc2 hG dX11_digest_102 fc_RX11_263 ?_
    refine gg_lload_n hG dX11_digest_105 rfl rfl ?_
    refine gg_lmul hG dX11_digest_106 ?_
    refine gg_aload_n hG dX11_digest_107 rfl rfl ?_
    refine gg_iload_n hG dX11_digest_108 rfl rfl ?_
    refine gg_iconst (v := 1) hG dX11_digest_109 (by decide) ?_
    refine gg_xv (As := [.int a3, .int 1]) (st := [.long ((31 : Int64) * v46)]) hG dX11_digest_110 ml_RX11_167 Y_X11_troubleNow YV_X11_troubleNow (by decide) ⟨_, rfl, rfl⟩ (mt_X11_troubleNow h) rfl (by decide) (Nat.le_of_ble_eq_true rfl) rfl (gg_kj (fun v48 u47 h => ?_))
    refine gg_ladd hG dX11_digest_113 ?_
    refine gg_nl (fun v49 e49 => ?_)
    replace h := h v49 e49
    refine gg_lstore_n (L1 := [some (.ref 1), some (.long v49), none, some (.int a3), none]) hG dX11_digest_114 rfl (by decide) rfl ?_
    refine gg_iinc (v := (a3 + 1)) (L1 := [some (.ref 1), some (.long v49), none, some (.int (a3 + 1)), none]) hG dX11_digest_115 rfl rfl (by decide) rfl ?_
    refine gg_goto (tgt := 84) hG dX11_digest_118 (by decide) ?_
    exact hk84 _ h
def w_X11_digest_c84 (a1 : Int64) (a3 : Int32) (u : gg_M)  (Q : Int64 → gg_M → Prop) : Prop :=
  gg_loop (fun (s : Int64 × Int32 × gg_M) k84 => b_X11_digest_c84  s.1 s.2.1 s.2.2  k84 Q) (a1, a3, u)
set_option maxRecDepth 10000 in
theorem m_X11_digest_c84 {a1 : Int64} {a3 : Int32} {u : gg_M}  {G : gg_T} {Q : Int64 → gg_M → Prop} (hG : gg_Cl none cX11_digest 5 RX11 (some .long) 8 (gg_eJ Q) G)  (h : w_X11_digest_c84 a1 a3 u  Q)   : G 84 [some (.ref 1), some (.long a1), none, some (.int a3), none] [] u :=
  gg_loop_use (P := fun s : Int64 × Int32 × gg_M => G 84 [some (.ref 1), some (.long s.1), none, some (.int s.2.1), none] [] s.2.2) h (fun s rc hb hr => mb_X11_digest_c84 hG  hb   hr)
def b_X11_digest_c57  (a1 : Int64) (a3 : Int32) (u : gg_M)  (k57 : Int64 × Int32 × gg_M → Prop) (Q : Int64 → gg_M → Prop) : Prop :=
  (7 ≤ a3 →
   w_X11_digest_c84 a1 0 u Q) ∧
  (¬ 7 ≤ a3 →
   w_X11_motorOf a3 u (fun v52 u51 =>
   ∀ v53 : Int64, v53 = (((31 : Int64) * a1) + v52.toInt64) →
   k57 (v53, (a3 + 1), u51)))
set_option maxRecDepth 10000 in
theorem mb_X11_digest_c57  {a1 : Int64} {a3 : Int32} {u : gg_M}  {k57 : Int64 × Int32 × gg_M → Prop} {G : gg_T} {Q : Int64 → gg_M → Prop} (hG : gg_Cl none cX11_digest 5 RX11 (some .long) 8 (gg_eJ Q) G)  (h : b_X11_digest_c57 a1 a3 u k57 Q)   (hk57 : ∀ s : Int64 × Int32 × gg_M, k57 s → G 57 [some (.ref 1), some (.long s.1), none, some (.int s.2.1), none] [] s.2.2) : G 57 [some (.ref 1), some (.long a1), none, some (.int a3), none] [] u := by
  unfold b_X11_digest_c57 at h
  refine gg_iload_n hG dX11_digest_57 rfl rfl ?_
  refine gg_bipush (v := 7) hG dX11_digest_58 (by decide) ?_
  refine gg_ic_ge (tgt := 82) hG dX11_digest_60 (by decide) (fun c50 => ?_) (fun c50 => ?_)
  · replace h := h.1 c50
    refine gg_iconst (v := 0) hG dX11_digest_82 (by decide) ?_
    refine gg_istore_n (L1 := [some (.ref 1), some (.long a1), none, some (.int 0), none]) hG dX11_digest_83 rfl (by decide) rfl ?_
    exact m_X11_digest_c84 hG h
  · replace h := h.2 c50
    refine gg_ldc2 hG dX11_digest_63 fc_RX11_263 ?_
    refine gg_lload_n hG dX11_digest_66 rfl rfl ?_
    refine gg_lmul hG dX11_digest_67 ?_
    refine gg_aload_n hG dX11_digest_68 rfl rfl ?_
    refine gg_iload_n hG dX11_digest_69 rfl rfl ?_
    refine gg_xv (As := [.int a3]) (st := [.long ((31 : Int64) * a1)]) hG dX11_digest_70 ml_RX11_110 Y_X11_motorOf YV_X11_motorOf (by decide) ⟨_, rfl, rfl⟩ (mt_X11_motorOf h) rfl (by decide) (Nat.le_of_ble_eq_true rfl) rfl (gg_ki (fun v52 u51 h => ?_))
    refine gg_i2l hG dX11_digest_73 ?_
    refine gg_ladd hG dX11_digest_74 ?_
    refine gg_nl (fun v53 e53 => ?_)
    replace h := h v53 e53
    refine gg_lstore_n (L1 := [some (.ref 1), some (.long v53), none, some (.int a3), none]) hG dX11_digest_75 rfl (by decide) rfl ?_
    refine gg_iinc (v := (a3 + 1)) (L1 := [some (.ref 1), some (.long v53), none, some (.int (a3 + 1)), none]) hG dX11_digest_76 rfl rfl (by decide) rfl ?_
    refine gg_goto (tgt := 57) hG dX11_digest_79 (by decide) ?_
    exact hk57 _ h
def w_X11_digest_c57 (a1 : Int64) (a3 : Int32) (u : gg_M)  (Q : Int64 → gg_M → Prop) : Prop :=
  gg_loop (fun (s : Int64 × Int32 × gg_M) k57 => b_X11_digest_c57  s.1 s.2.1 s.2.2  k57 Q) (a1, a3, u)
set_option maxRecDepth 10000 in
theorem m_X11_digest_c57 {a1 : Int64} {a3 : Int32} {u : gg_M}  {G : gg_T} {Q : Int64 → gg_M → Prop} (hG : gg_Cl none cX11_digest 5 RX11 (some .long) 8 (gg_eJ Q) G)  (h : w_X11_digest_c57 a1 a3 u  Q)   : G 57 [some (.ref 1), some (.long a1), none, some (.int a3), none] [] u :=
  gg_loop_use (P := fun s : Int64 × Int32 × gg_M => G 57 [some (.ref 1), some (.long s.1), none, some (.int s.2.1), none] [] s.2.2) h (fun s rc hb hr => mb_X11_digest_c57 hG  hb   hr)
def b_X11_digest_c6  (a1 : Int64) (a3 : Int32) (u : gg_M)  (k6 : Int64 × Int32 × gg_M → Prop) (Q : Int64 → gg_M → Prop) : Prop :=
  (8 ≤ a3 →
   w_X11_motorNow u (fun v56 u55 =>
   ∀ v57 : Int64, v57 = (((31 : Int64) * a1) + v56.toInt64) →
   w_X11_habitNow u55 (fun v59 u58 =>
   ∀ v60 : Int64, v60 = (((31 : Int64) * v57) + v59.toInt64) →
   w_X11_digest_c57 v60 0 u58 Q))) ∧
  (¬ 8 ≤ a3 →
   w_X11_count a3 u (fun v62 u61 =>
   ∀ v63 : Int64, v63 = (((31 : Int64) * a1) + v62.toInt64) →
   k6 (v63, (a3 + 1), u61)))
set_option maxRecDepth 10000 in
theorem mb_X11_digest_c6  {a1 : Int64} {a3 : Int32} {u : gg_M}  {k6 : Int64 × Int32 × gg_M → Prop} {G : gg_T} {Q : Int64 → gg_M → Prop} (hG : gg_Cl none cX11_digest 5 RX11 (some .long) 8 (gg_eJ Q) G)  (h : b_X11_digest_c6 a1 a3 u k6 Q)   (hk6 : ∀ s : Int64 × Int32 × gg_M, k6 s → G 6 [some (.ref 1), some (.long s.1), none, some (.int s.2.1), none] [] s.2.2) : G 6 [some (.ref 1), some (.long a1), none, some (.int a3), none] [] u := by
  unfold b_X11_digest_c6 at h
  refine gg_iload_n hG dX11_digest_6 rfl rfl ?_
  refine gg_bipush (v := 8) hG dX11_digest_7 (by decide) ?_
  refine gg_ic_ge (tgt := 31) hG dX11_digest_9 (by decide) (fun c54 => ?_) (fun c54 => ?_)
  · replace h := h.1 c54
    refine gg_ldc2 hG dX11_digest_31 fc_RX11_263 ?_
    refine gg_lload_n hG dX11_digest_34 rfl rfl ?_
    refine gg_lmul hG dX11_digest_35 ?_
    refine gg_aload_n hG dX11_digest_36 rfl rfl ?_
    refine gg_xv (As := []) (st := [.long ((31 : Int64) * a1)]) hG dX11_digest_37 ml_RX11_104 Y_X11_motorNow YV_X11_motorNow (by decide) ⟨_, rfl, rfl⟩ (mt_X11_motorNow h) rfl (by decide) (Nat.le_of_ble_eq_true rfl) rfl (gg_ki (fun v56 u55 h => ?_))
    refine gg_i2l hG dX11_digest_40 ?_
    refine gg_ladd hG dX11_digest_41 ?_
    refine gg_nl (fun v57 e57 => ?_)
    replace h := h v57 e57
    refine gg_lstore_n (L1 := [some (.ref 1), some (.long v57), none, some (.int a3), none]) hG dX11_digest_42 rfl (by decide) rfl ?_
    refine gg_ldc2 hG dX11_digest_43 fc_RX11_263 ?_
    refine gg_lload_n hG dX11_digest_46 rfl rfl ?_
    refine gg_lmul hG dX11_digest_47 ?_
    refine gg_aload_n hG dX11_digest_48 rfl rfl ?_
    refine gg_xv (As := []) (st := [.long ((31 : Int64) * v57)]) hG dX11_digest_49 ml_RX11_107 Y_X11_habitNow YV_X11_habitNow (by decide) ⟨_, rfl, rfl⟩ (mt_X11_habitNow h) rfl (by decide) (Nat.le_of_ble_eq_true rfl) rfl (gg_ki (fun v59 u58 h => ?_))
    refine gg_i2l hG dX11_digest_52 ?_
    refine gg_ladd hG dX11_digest_53 ?_
    refine gg_nl (fun v60 e60 => ?_)
    replace h := h v60 e60
    refine gg_lstore_n (L1 := [some (.ref 1), some (.long v60), none, some (.int a3), none]) hG dX11_digest_54 rfl (by decide) rfl ?_
    refine gg_iconst (v := 0) hG dX11_digest_55 (by decide) ?_
    refine gg_istore_n (L1 := [some (.ref 1), some (.long v60), none, some (.int 0), none]) hG dX11_digest_56 rfl (by decide) rfl ?_
    exact m_X11_digest_c57 hG h
  · replace h := h.2 c54
    refine gg_ldc2 hG dX11_digest_12 fc_RX11_263 ?_
    refine gg_lload_n hG dX11_digest_15 rfl rfl ?_
    refine gg_lmul hG dX11_digest_16 ?_
    refine gg_aload_n hG dX11_digest_17 rfl rfl ?_
    refine gg_iload_n hG dX11_digest_18 rfl rfl ?_
    refine gg_xv (As := [.int a3]) (st := [.long ((31 : Int64) * a1)]) hG dX11_digest_19 ml_RX11_265 Y_X11_count YV_X11_count (by decide) ⟨_, rfl, rfl⟩ (mt_X11_count h) rfl (by decide) (Nat.le_of_ble_eq_true rfl) rfl (gg_ki (fun v62 u61 h => ?_))
    refine gg_i2l hG dX11_digest_22 ?_
    refine gg_ladd hG dX11_digest_23 ?_
    refine gg_nl (fun v63 e63 => ?_)
    replace h := h v63 e63
    refine gg_lstore_n (L1 := [some (.ref 1), some (.long v63), none, some (.int a3), none]) hG dX11_digest_24 rfl (by decide) rfl ?_
    refine gg_iinc (v := (a3 + 1)) (L1 := [some (.ref 1), some (.long v63), none, some (.int (a3 + 1)), none]) hG dX11_digest_25 rfl rfl (by decide) rfl ?_
    refine gg_goto (tgt := 6) hG dX11_digest_28 (by decide) ?_
    exact hk6 _ h
def w_X11_digest_c6 (a1 : Int64) (a3 : Int32) (u : gg_M)  (Q : Int64 → gg_M → Prop) : Prop :=
  gg_loop (fun (s : Int64 × Int32 × gg_M) k6 => b_X11_digest_c6  s.1 s.2.1 s.2.2  k6 Q) (a1, a3, u)
set_option maxRecDepth 10000 in
theorem m_X11_digest_c6 {a1 : Int64} {a3 : Int32} {u : gg_M}  {G : gg_T} {Q : Int64 → gg_M → Prop} (hG : gg_Cl none cX11_digest 5 RX11 (some .long) 8 (gg_eJ Q) G)  (h : w_X11_digest_c6 a1 a3 u  Q)   : G 6 [some (.ref 1), some (.long a1), none, some (.int a3), none] [] u :=
  gg_loop_use (P := fun s : Int64 × Int32 × gg_M => G 6 [some (.ref 1), some (.long s.1), none, some (.int s.2.1), none] [] s.2.2) h (fun s rc hb hr => mb_X11_digest_c6 hG  hb   hr)
def w_X11_digest  (u : gg_M)  (Q : Int64 → gg_M → Prop) : Prop :=
  w_X11_digest_c6 17 0 u Q
set_option maxRecDepth 10000 in
theorem m_X11_digest  {u : gg_M}  {G : gg_T} {Q : Int64 → gg_M → Prop} (hG : gg_Cl none cX11_digest 5 RX11 (some .long) 8 (gg_eJ Q) G)  (h : w_X11_digest  u  Q)   : G 0 [some (.ref 1), none, none, none, none] [] u := by
  unfold w_X11_digest at h
  refine gg_ldc2 hG dX11_digest_0 fc_RX11_261 ?_
  refine gg_lstore_n (L1 := [some (.ref 1), some (.long 17), none, none, none]) hG dX11_digest_3 rfl (by decide) rfl ?_
  refine gg_iconst (v := 0) hG dX11_digest_4 (by decide) ?_
  refine gg_istore_n (L1 := [some (.ref 1), some (.long 17), none, some (.int 0), none]) hG dX11_digest_5 rfl (by decide) rfl ?_
  exact m_X11_digest_c6 hG h
theorem mt_X11_digest   {u : gg_M} {Q : Int64 → gg_M → Prop} (h : w_X11_digest  u Q) : gg_Mt 8 yX11_digest cX11_digest 5 (some .long) [.ref 1] u (gg_eJ Q) :=
  gg_intro (own := RX11) (by decide +kernel) rfl rfl (Nat.le_of_ble_eq_true rfl) (fun G hG => m_X11_digest hG  h)
