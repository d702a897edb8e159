/-! X11_habitOf -/
def w_X11_habitOf_c77 (a1 : Int32) (a2 : Int32) (a6 : Int32) (z0 : Int64) (z1 : Int64) (u : gg_M) (k25 : Int64 × Int32 × gg_M → Prop) (Q : Int64 → gg_M → Prop) : Prop :=
  ∀ v1 : Int64, v1 = (z0 + z1) →
  k25 (v1, (a6 + 1), u)
set_option maxRecDepth 10000 in
theorem m_X11_habitOf_c77 {a1 : Int32} {a2 : Int32} {a6 : Int32} {z0 : Int64} {z1 : Int64} {u : gg_M} {k25 : Int64 × Int32 × gg_M → Prop} {G : gg_T} {Q : Int64 → gg_M → Prop} (hG : gg_Cl none cX11_habitOf 8 RX11 (some .long) 5 (gg_eJ Q) G)  (h : w_X11_habitOf_c77 a1 a2 a6 z0 z1 u k25 Q)  (hk25 : ∀ s : Int64 × Int32 × gg_M, k25 s → G 25 [some (.ref 1), some (.int a1), some (.int a2), none, some (.long s.1), none, some (.int s.2.1), none] [] s.2.2) : G 77 [some (.ref 1), some (.int a1), some (.int a2), none, none, none, some (.int a6), none] [.long z1, .long z0] u := by
  unfold w_X11_habitOf_c77 at h
  refine gg_ladd hG dX11_habitOf_77 ?_
  refine gg_nl (fun v1 e1 => ?_)
  replace h := h v1 e1
  refine gg_lstore (L1 := [some (.ref 1), some (.int a1), some (.int a2), none, some (.long v1), none, some (.int a6), none]) hG dX11_habitOf_78 (by decide) rfl ?_
  refine gg_iinc (v := (a6 + 1)) (L1 := [some (.ref 1), some (.int a1), some (.int a2), none, some (.long v1), none, some (.int (a6 + 1)), none]) hG dX11_habitOf_80 rfl rfl (by decide) rfl ?_
  refine gg_goto (tgt := 25) hG dX11_habitOf_83 (by decide) ?_
  exact hk25 _ h
def b_X11_habitOf_c25 (a1 : Int32) (a2 : Int32) (a4 : Int64) (a6 : Int32) (u : gg_M)  (k25 : Int64 × Int32 × gg_M → Prop) (Q : Int64 → gg_M → Prop) : Prop :=
  (32 ≤ a6 →
   w_X11_lowest a4 1048576 a2 u (fun v4 u3 =>
   Q v4 u3)) ∧
  (¬ 32 ≤ a6 →
   w_X11_runsBy a6 u (fun v6 u5 =>
   (¬ a1 = 1 →
    (v6 = 0 →
     w_X11_habitOf_c77 a1 a2 a6 a4 0 u5 k25 Q) ∧
    (¬ v6 = 0 →
     w_X11_partsOf a6 u5 (fun v10 u9 =>
     w_X11_habitOf_c77 a1 a2 a6 a4 v10 u9 k25 Q))) ∧
   (a1 = 1 →
    w_X11_partsOf a6 u5 (fun v12 u11 =>
    w_X11_habitOf_c77 a1 a2 a6 a4 (v12 * (u11.1 1 14).toInt64) u11 k25 Q))))
set_option maxRecDepth 10000 in
theorem mb_X11_habitOf_c25 {a1 : Int32} {a2 : Int32} {a4 : Int64} {a6 : Int32} {u : gg_M}  {k25 : Int64 × Int32 × gg_M → Prop} {G : gg_T} {Q : Int64 → gg_M → Prop} (hG : gg_Cl none cX11_habitOf 8 RX11 (some .long) 5 (gg_eJ Q) G)  (h : b_X11_habitOf_c25 a1 a2 a4 a6 u k25 Q)   (hk25 : ∀ s : Int64 × Int32 × gg_M, k25 s → G 25 [some (.ref 1), some (.int a1), some (.int a2), none, some (.long s.1), none, some (.int s.2.1), none] [] s.2.2) : G 25 [some (.ref 1), some (.int a1), some (.int a2), none, some (.long a4), none, some (.int a6), none] [] u := by
  unfold b_X11_habitOf_c25 at h
  refine gg_iload hG dX11_habitOf_25 rfl ?_
  refine gg_bipush (v := 32) hG dX11_habitOf_27 (by decide) ?_
  refine gg_ic_ge (tgt := 86) hG dX11_habitOf_29 (by decide) (fun c2 => ?_) (fun c2 => ?_)
  · replace h := h.1 c2
    refine gg_lload hG dX11_habitOf_86 rfl ?_
    refine gg_ldc2 hG dX11_habitOf_88 fc_RX11_212 ?_
    refine gg_iload_n hG dX11_habitOf_91 rfl rfl ?_
    refine gg_xs (As := [.long a4, .long 1048576, .int a2]) (st := []) hG dX11_habitOf_92 ml_RX11_163 Y_X11_lowest YS_X11_lowest (mt_X11_lowest h) rfl (by decide) (Nat.le_of_ble_eq_true rfl) rfl (gg_kj (fun v4 u3 h => ?_))
    exact gg_lret hG dX11_habitOf_95 rfl ⟨_, rfl, h⟩
  · replace h := h.2 c2
    refine gg_aload_n hG dX11_habitOf_32 rfl rfl ?_
    refine gg_iload hG dX11_habitOf_33 rfl ?_
    refine gg_xv (As := [.int a6]) (st := []) hG dX11_habitOf_35 ml_RX11_209 Y_X11_runsBy YV_X11_runsBy (by decide) ⟨_, rfl, rfl⟩ (mt_X11_runsBy h) rfl (by decide) (Nat.le_of_ble_eq_true rfl) rfl (gg_ki (fun v6 u5 h => ?_))
    refine gg_istore (L1 := [some (.ref 1), some (.int a1), some (.int a2), none, some (.long a4), none, some (.int a6), some (.int v6)]) hG dX11_habitOf_38 (by decide) rfl ?_
    refine gg_lload hG dX11_habitOf_40 rfl ?_
    refine gg_iload_n hG dX11_habitOf_42 rfl rfl ?_
    refine gg_iconst (v := 1) hG dX11_habitOf_43 (by decide) ?_
    refine gg_ic_ne (tgt := 62) hG dX11_habitOf_44 (by decide) (fun c7 => ?_) (fun c7 => ?_)
    · replace h := h.1 c7
      refine gg_iload hG dX11_habitOf_62 rfl ?_
      refine gg_if_eq (tgt := 76) hG dX11_habitOf_64 (by decide) (fun c8 => ?_) (fun c8 => ?_)
      · replace h := h.1 c8
        refine gg_lconst (v := 0) hG dX11_habitOf_76 (by decide) ?_
        refine gg_mk hG [true, true, true, false, false, false, true, false] rfl ?_
        exact m_X11_habitOf_c77 hG h hk25
      · replace h := h.2 c8
        refine gg_aload_n hG dX11_habitOf_67 rfl rfl ?_
        refine gg_iload hG dX11_habitOf_68 rfl ?_
        refine gg_xv (As := [.int a6]) (st := [.long a4]) hG dX11_habitOf_70 ml_RX11_147 Y_X11_partsOf YV_X11_partsOf (by decide) ⟨_, rfl, rfl⟩ (mt_X11_partsOf h) rfl (by decide) (Nat.le_of_ble_eq_true rfl) rfl (gg_kj (fun v10 u9 h => ?_))
        refine gg_goto (tgt := 77) hG dX11_habitOf_73 (by decide) ?_
        refine gg_mk hG [true, true, true, false, false, false, true, false] rfl ?_
        exact m_X11_habitOf_c77 hG h hk25
    · replace h := h.2 c7
      refine gg_aload_n hG dX11_habitOf_47 rfl rfl ?_
      refine gg_iload hG dX11_habitOf_48 rfl ?_
      refine gg_xv (As := [.int a6]) (st := [.long a4]) hG dX11_habitOf_50 ml_RX11_147 Y_X11_partsOf YV_X11_partsOf (by decide) ⟨_, rfl, rfl⟩ (mt_X11_partsOf h) rfl (by decide) (Nat.le_of_ble_eq_true rfl) rfl (gg_kj (fun v12 u11 h => ?_))
      refine gg_aload_n hG dX11_habitOf_53 rfl rfl ?_
      refine gg_get (v := .int (u11.1 1 14)) hG dX11_habitOf_54 (by decide) rfl fl_RX11_206 rfl ?_
      refine gg_i2l hG dX11_habitOf_57 ?_
      refine gg_lmul hG dX11_habitOf_58 ?_
      refine gg_goto (tgt := 77) hG dX11_habitOf_59 (by decide) ?_
      refine gg_mk hG [true, true, true, false, false, false, true, false] rfl ?_
      exact m_X11_habitOf_c77 hG h hk25
def w_X11_habitOf_c25 (a1 : Int32) (a2 : Int32) (a4 : Int64) (a6 : Int32) (u : gg_M)  (Q : Int64 → gg_M → Prop) : Prop :=
  gg_loop (fun (s : Int64 × Int32 × gg_M) k25 => b_X11_habitOf_c25 a1 a2 s.1 s.2.1 s.2.2  k25 Q) (a4, a6, u)
set_option maxRecDepth 10000 in
theorem m_X11_habitOf_c25 {a1 : Int32} {a2 : Int32} {a4 : Int64} {a6 : Int32} {u : gg_M}  {G : gg_T} {Q : Int64 → gg_M → Prop} (hG : gg_Cl none cX11_habitOf 8 RX11 (some .long) 5 (gg_eJ Q) G)  (h : w_X11_habitOf_c25 a1 a2 a4 a6 u  Q)   : G 25 [some (.ref 1), some (.int a1), some (.int a2), none, some (.long a4), none, some (.int a6), none] [] u :=
  gg_loop_use (P := fun s : Int64 × Int32 × gg_M => G 25 [some (.ref 1), some (.int a1), some (.int a2), none, some (.long s.1), none, some (.int s.2.1), none] [] s.2.2) h (fun s rc hb hr => mb_X11_habitOf_c25 hG  hb   hr)
def w_X11_habitOf (a1 : Int32) (a2 : Int32) (u : gg_M)  (Q : Int64 → gg_M → Prop) : Prop :=
  w_X11_habitNow u (fun v14 u13 =>
  (v14 = (-1) →
   w_X11_motorNow u13 (fun v17 u16 =>
   w_X11_habitOf_c25 a1 a2 0 0 u16 Q)) ∧
  (¬ v14 = (-1) →
   w_X11_no (-3) u13 (fun v19 u18 =>
   Q v19 u18)))
set_option maxRecDepth 10000 in
theorem m_X11_habitOf {a1 : Int32} {a2 : Int32} {u : gg_M}  {G : gg_T} {Q : Int64 → gg_M → Prop} (hG : gg_Cl none cX11_habitOf 8 RX11 (some .long) 5 (gg_eJ Q) G)  (h : w_X11_habitOf a1 a2 u  Q)   : G 0 [some (.ref 1), some (.int a1), some (.int a2), none, none, none, none, none] [] u := by
  unfold w_X11_habitOf at h
  refine gg_aload_n hG dX11_habitOf_0 rfl rfl ?_
  refine gg_xv (As := []) (st := []) hG dX11_habitOf_1 ml_RX11_107 Y_X11_habitNow YV_X11_habitNow (by decide) ⟨_, rfl, rfl⟩ (mt_X11_habitNow h) rfl (by decide) (Nat.le_of_ble_eq_true rfl) rfl (gg_ki (fun v14 u13 h => ?_))
  refine gg_iconst (v := (-1)) hG dX11_habitOf_4 (by decide) ?_
  refine gg_ic_eq (tgt := 14) hG dX11_habitOf_5 (by decide) (fun c15 => ?_) (fun c15 => ?_)
  · replace h := h.1 c15
    refine gg_aload_n hG dX11_habitOf_14 rfl rfl ?_
    refine gg_xv (As := []) (st := []) hG dX11_habitOf_15 ml_RX11_104 Y_X11_motorNow YV_X11_motorNow (by decide) ⟨_, rfl, rfl⟩ (mt_X11_motorNow h) rfl (by decide) (Nat.le_of_ble_eq_true rfl) rfl (gg_ki (fun v17 u16 h => ?_))
    refine gg_istore_n (L1 := [some (.ref 1), some (.int a1), some (.int a2), some (.int v17), none, none, none, none]) hG dX11_habitOf_18 rfl (by decide) rfl ?_
    refine gg_lconst (v := 0) hG dX11_habitOf_19 (by decide) ?_
    refine gg_lstore (L1 := [some (.ref 1), some (.int a1), some (.int a2), some (.int v17), some (.long 0), none, none, none]) hG dX11_habitOf_20 (by decide) rfl ?_
    refine gg_iconst (v := 0) hG dX11_habitOf_22 (by decide) ?_
    refine gg_istore (L1 := [some (.ref 1), some (.int a1), some (.int a2), some (.int v17), some (.long 0), none, some (.int 0), none]) hG dX11_habitOf_23 (by decide) rfl ?_
    refine gg_mk hG [true, true, true, false, true, false, true, false] rfl ?_
    exact m_X11_habitOf_c25 hG h
  · replace h := h.2 c15
    refine gg_bipush (v := (-3)) hG dX11_habitOf_8 (by decide) ?_
    refine gg_xs (As := [.int (-3)]) (st := []) hG dX11_habitOf_10 ml_RX11_160 Y_X11_no YS_X11_no (mt_X11_no h) rfl (by decide) (Nat.le_of_ble_eq_true rfl) rfl (gg_kj (fun v19 u18 h => ?_))
    exact gg_lret hG dX11_habitOf_13 rfl ⟨_, rfl, h⟩
theorem mt_X11_habitOf {a1 : Int32} {a2 : Int32}  {u : gg_M} {Q : Int64 → gg_M → Prop} (h : w_X11_habitOf a1 a2 u Q) : gg_Mt 5 yX11_habitOf cX11_habitOf 8 (some .long) [.ref 1, .int a1, .int a2] u (gg_eJ Q) :=
  gg_intro (own := RX11) (by decide +kernel) rfl rfl (Nat.le_of_ble_eq_true rfl) (fun G hG => m_X11_habitOf hG  h)
/-! X11_habit -/
def w_X11_habit_c32 (z0 : Int64) (u : gg_M)  (Q : Int64 → gg_M → Prop) : Prop :=
  Q z0 u
set_option maxRecDepth 10000 in
theorem m_X11_habit_c32 {z0 : Int64} {u : gg_M}  {G : gg_T} {Q : Int64 → gg_M → Prop} (hG : gg_Cl none cX11_habit 3 RX11 (some .long) 6 (gg_eJ Q) G)  (h : w_X11_habit_c32 z0 u  Q)   : G 32 [none, none, none] [.long z0] u := by
  unfold w_X11_habit_c32 at h
  exact gg_lret hG dX11_habit_32 rfl ⟨_, rfl, h⟩
def w_X11_habit_c27  (u : gg_M)  (Q : Int64 → gg_M → Prop) : Prop :=
  w_X11_no (-2) u (fun v2 u1 =>
  w_X11_habit_c32 v2 u1 Q)
set_option maxRecDepth 10000 in
theorem m_X11_habit_c27  {u : gg_M}  {G : gg_T} {Q : Int64 → gg_M → Prop} (hG : gg_Cl none cX11_habit 3 RX11 (some .long) 6 (gg_eJ Q) G)  (h : w_X11_habit_c27  u  Q)   : G 27 [none, none, none] [] u := by
  unfold w_X11_habit_c27 at h
  refine gg_bipush (v := (-2)) hG dX11_habit_27 (by decide) ?_
  refine gg_xs (As := [.int (-2)]) (st := []) hG dX11_habit_29 ml_RX11_160 Y_X11_no YS_X11_no (mt_X11_no h) rfl (by decide) (Nat.le_of_ble_eq_true rfl) rfl (gg_kj (fun v2 u1 h => ?_))
  exact m_X11_habit_c32 hG h
def w_X11_habit (a1 : Int32) (a2 : Int32) (u : gg_M)  (Q : Int64 → gg_M → Prop) : Prop :=
  w_X11_in a1 0 1 u (fun v4 u3 =>
  (v4 = 0 →
   w_X11_habit_c27 u3 Q) ∧
  (¬ v4 = 0 →
   w_X11_in a2 0 1 u3 (fun v7 u6 =>
   (v7 = 0 →
    w_X11_habit_c27 u6 Q) ∧
   (¬ v7 = 0 →
    w_X11_habitOf a1 a2 u6 (fun v10 u9 =>
    w_X11_habit_c32 v10 u9 Q)))))
set_option maxRecDepth 10000 in
theorem m_X11_habit {a1 : Int32} {a2 : Int32} {u : gg_M}  {G : gg_T} {Q : Int64 → gg_M → Prop} (hG : gg_Cl none cX11_habit 3 RX11 (some .long) 6 (gg_eJ Q) G)  (h : w_X11_habit a1 a2 u  Q)   : G 0 [some (.ref 1), some (.int a1), some (.int a2)] [] u := by
  unfold w_X11_habit at h
  refine gg_iload_n hG dX11_habit_0 rfl rfl ?_
  refine gg_iconst (v := 0) hG dX11_habit_1 (by decide) ?_
  refine gg_iconst (v := 1) hG dX11_habit_2 (by decide) ?_
  refine gg_xs (As := [.int a1, .int 0, .int 1]) (st := []) hG dX11_habit_3 ml_RX11_68 Y_X11_in YS_X11_in (mt_X11_in h) rfl (by decide) (Nat.le_of_ble_eq_true rfl) rfl (gg_ki (fun v4 u3 h => ?_))
  refine gg_if_eq (tgt := 27) hG dX11_habit_6 (by decide) (fun c5 => ?_) (fun c5 => ?_)
  · replace h := h.1 c5
    refine gg_mk hG [false, false, false] rfl ?_
    exact m_X11_habit_c27 hG h
  · replace h := h.2 c5
    refine gg_iload_n hG dX11_habit_9 rfl rfl ?_
    refine gg_iconst (v := 0) hG dX11_habit_10 (by decide) ?_
    refine gg_iconst (v := 1) hG dX11_habit_11 (by decide) ?_
    refine gg_xs (As := [.int a2, .int 0, .int 1]) (st := []) hG dX11_habit_12 ml_RX11_68 Y_X11_in YS_X11_in (mt_X11_in h) rfl (by decide) (Nat.le_of_ble_eq_true rfl) rfl (gg_ki (fun v7 u6 h => ?_))
    refine gg_if_eq (tgt := 27) hG dX11_habit_15 (by decide) (fun c8 => ?_) (fun c8 => ?_)
    · replace h := h.1 c8
      refine gg_mk hG [false, false, false] rfl ?_
      exact m_X11_habit_c27 hG h
    · replace h := h.2 c8
      refine gg_aload_n hG dX11_habit_18 rfl rfl ?_
      refine gg_iload_n hG dX11_habit_19 rfl rfl ?_
      refine gg_iload_n hG dX11_habit_20 rfl rfl ?_
      refine gg_xv (As := [.int a1, .int a2]) (st := []) hG dX11_habit_21 ml_RX11_214 Y_X11_habitOf YV_X11_habitOf (by decide) ⟨_, rfl, rfl⟩ (mt_X11_habitOf h) rfl (by decide) (Nat.le_of_ble_eq_true rfl) rfl (gg_kj (fun v10 u9 h => ?_))
      refine gg_goto (tgt := 32) hG dX11_habit_24 (by decide) ?_
      refine gg_mk hG [false, false, false] rfl ?_
      exact m_X11_habit_c32 hG h
theorem mt_X11_habit {a1 : Int32} {a2 : Int32}  {u : gg_M} {Q : Int64 → gg_M → Prop} (h : w_X11_habit a1 a2 u Q) : gg_Mt 6 yX11_habit cX11_habit 3 (some .long) [.ref 1, .int a1, .int a2] u (gg_eJ Q) :=
  gg_intro (own := RX11) (by decide +kernel) rfl rfl (Nat.le_of_ble_eq_true rfl) (fun G hG => m_X11_habit hG  h)
/-! X11_hasNow -/
def w_X11_hasNow_c62 (a4 : Int32) (z0 : Int32) (z1 : Int32) (u : gg_M) (k40 : Int32 × Int32 × gg_M → Prop) (Q : Int32 → gg_M → Prop) : Prop :=
  ∀ v1 : Int32, v1 = (z0 + z1) →
  k40 (v1, (a4 + 1), u)
set_option maxRecDepth 10000 in
theorem m_X11_hasNow_c62 {a4 : Int32} {z0 : Int32} {z1 : Int32} {u : gg_M} {k40 : Int32 × Int32 × gg_M → Prop} {G : gg_T} {Q : Int32 → gg_M → Prop} (hG : gg_Cl none cX11_hasNow 5 RX11 (some .int) 5 (gg_eI Q) G)  (h : w_X11_hasNow_c62 a4 z0 z1 u k40 Q)  (hk40 : ∀ s : Int32 × Int32 × gg_M, k40 s → G 40 [some (.ref 1), none, none, some (.int s.1), some (.int s.2.1)] [] s.2.2) : G 62 [some (.ref 1), none, none, none, some (.int a4)] [.int z1, .int z0] u := by
  unfold w_X11_hasNow_c62 at h
  refine gg_iadd hG dX11_hasNow_62 ?_
  refine gg_ni (fun v1 e1 => ?_)
  replace h := h v1 e1
  refine gg_istore_n (L1 := [some (.ref 1), none, none, some (.int v1), some (.int a4)]) hG dX11_hasNow_63 rfl (by decide) rfl ?_
  refine gg_iinc (v := (a4 + 1)) (L1 := [some (.ref 1), none, none, some (.int v1), some (.int (a4 + 1))]) hG dX11_hasNow_64 rfl rfl (by decide) rfl ?_
  refine gg_goto (tgt := 40) hG dX11_hasNow_67 (by decide) ?_
  exact hk40 _ h
def b_X11_hasNow_c40  (a3 : Int32) (a4 : Int32) (u : gg_M)  (k40 : Int32 × Int32 × gg_M → Prop) (Q : Int32 → gg_M → Prop) : Prop :=
  (32 ≤ a4 →
   Q a3 u) ∧
  (¬ 32 ≤ a4 →
   w_X11_runsBy a4 u (fun v4 u3 =>
   (v4 = 0 →
    w_X11_hasNow_c62 a4 a3 0 u3 k40 Q) ∧
   (¬ v4 = 0 →
    w_X11_hasNow_c62 a4 a3 1 u3 k40 Q)))
set_option maxRecDepth 10000 in
theorem mb_X11_hasNow_c40  {a3 : Int32} {a4 : Int32} {u : gg_M}  {k40 : Int32 × Int32 × gg_M → Prop} {G : gg_T} {Q : Int32 → gg_M → Prop} (hG : gg_Cl none cX11_hasNow 5 RX11 (some .int) 5 (gg_eI Q) G)  (h : b_X11_hasNow_c40 a3 a4 u k40 Q)   (hk40 : ∀ s : Int32 × Int32 × gg_M, k40 s → G 40 [some (.ref 1), none, none, some (.int s.1), some (.int s.2.1)] [] s.2.2) : G 40 [some (.ref 1), none, none, some (.int a3), some (.int a4)] [] u := by
  unfold b_X11_hasNow_c40 at h
  refine gg_iload hG dX11_hasNow_40 rfl ?_
  refine gg_bipush (v := 32) hG dX11_hasNow_42 (by decide) ?_
  refine gg_ic_ge (tgt := 70) hG dX11_hasNow_44 (by decide) (fun c2 => ?_) (fun c2 => ?_)
  · replace h := h.1 c2
    refine gg_iload_n hG dX11_hasNow_70 rfl rfl ?_
    exact gg_iret hG dX11_hasNow_71 rfl rfl ⟨_, rfl, h⟩
  · replace h := h.2 c2
    refine gg_iload_n hG dX11_hasNow_47 rfl rfl ?_
    refine gg_aload_n hG dX11_hasNow_48 rfl rfl ?_
    refine gg_iload hG dX11_hasNow_49 rfl ?_
    refine gg_xv (As := [.int a4]) (st := [.int a3]) hG dX11_hasNow_51 ml_RX11_209 Y_X11_runsBy YV_X11_runsBy (by decide) ⟨_, rfl, rfl⟩ (mt_X11_runsBy h) rfl (by decide) (Nat.le_of_ble_eq_true rfl) rfl (gg_ki (fun v4 u3 h => ?_))
    refine gg_if_eq (tgt := 61) hG dX11_hasNow_54 (by decide) (fun c5 => ?_) (fun c5 => ?_)
    · replace h := h.1 c5
      refine gg_iconst (v := 0) hG dX11_hasNow_61 (by decide) ?_
      refine gg_mk hG [true, false, false, false, true] rfl ?_
      exact m_X11_hasNow_c62 hG h hk40
    · replace h := h.2 c5
      refine gg_iconst (v := 1) hG dX11_hasNow_57 (by decide) ?_
      refine gg_goto (tgt := 62) hG dX11_hasNow_58 (by decide) ?_
      refine gg_mk hG [true, false, false, false, true] rfl ?_
      exact m_X11_hasNow_c62 hG h hk40
def w_X11_hasNow_c40 (a3 : Int32) (a4 : Int32) (u : gg_M)  (Q : Int32 → gg_M → Prop) : Prop :=
  gg_loop (fun (s : Int32 × Int32 × gg_M) k40 => b_X11_hasNow_c40  s.1 s.2.1 s.2.2  k40 Q) (a3, a4, u)
set_option maxRecDepth 10000 in
theorem m_X11_hasNow_c40 {a3 : Int32} {a4 : Int32} {u : gg_M}  {G : gg_T} {Q : Int32 → gg_M → Prop} (hG : gg_Cl none cX11_hasNow 5 RX11 (some .int) 5 (gg_eI Q) G)  (h : w_X11_hasNow_c40 a3 a4 u  Q)   : G 40 [some (.ref 1), none, none, some (.int a3), some (.int a4)] [] u :=
  gg_loop_use (P := fun s : Int32 × Int32 × gg_M => G 40 [some (.ref 1), none, none, some (.int s.1), some (.int s.2.1)] [] s.2.2) h (fun s rc hb hr => mb_X11_hasNow_c40 hG  hb   hr)
def w_X11_hasNow_c34 (z0 : Int32) (u : gg_M)  (Q : Int32 → gg_M → Prop) : Prop :=
  Q z0 u
set_option maxRecDepth 10000 in
theorem m_X11_hasNow_c34 {z0 : Int32} {u : gg_M}  {G : gg_T} {Q : Int32 → gg_M → Prop} (hG : gg_Cl none cX11_hasNow 5 RX11 (some .int) 5 (gg_eI Q) G)  (h : w_X11_hasNow_c34 z0 u  Q)   : G 34 [none, none, none, none, none] [.int z0] u := by
  unfold w_X11_hasNow_c34 at h
  exact gg_iret hG dX11_hasNow_34 rfl rfl ⟨_, rfl, h⟩
def w_X11_hasNow (a1 : Int32) (u : gg_M)  (Q : Int32 → gg_M → Prop) : Prop :=
  w_X11_habitNow u (fun v7 u6 =>
  (v7 = (-1) →
   w_X11_motorNow u6 (fun v10 u9 =>
   (a1 = (-1) →
    w_X11_hasNow_c40 0 0 u9 Q) ∧
   (¬ a1 = (-1) →
    w_X11_runsBy a1 u9 (fun v13 u12 =>
    (v13 = 0 →
     w_X11_hasNow_c34 0 u12 Q) ∧
    (¬ v13 = 0 →
     w_X11_hasNow_c34 1 u12 Q))))) ∧
  (¬ v7 = (-1) →
   Q (-3) u6))
set_option maxRecDepth 10000 in
theorem m_X11_hasNow {a1 : Int32} {u : gg_M}  {G : gg_T} {Q : Int32 → gg_M → Prop} (hG : gg_Cl none cX11_hasNow 5 RX11 (some .int) 5 (gg_eI Q) G)  (h : w_X11_hasNow a1 u  Q)   : G 0 [some (.ref 1), some (.int a1), none, none, none] [] u := by
  unfold w_X11_hasNow at h
  refine gg_aload_n hG dX11_hasNow_0 rfl rfl ?_
  refine gg_xv (As := []) (st := []) hG dX11_hasNow_1 ml_RX11_107 Y_X11_habitNow YV_X11_habitNow (by decide) ⟨_, rfl, rfl⟩ (mt_X11_habitNow h) rfl (by decide) (Nat.le_of_ble_eq_true rfl) rfl (gg_ki (fun v7 u6 h => ?_))
  refine gg_iconst (v := (-1)) hG dX11_hasNow_4 (by decide) ?_
  refine gg_ic_eq (tgt := 11) hG dX11_hasNow_5 (by decide) (fun c8 => ?_) (fun c8 => ?_)
  · replace h := h.1 c8
    refine gg_aload_n hG dX11_hasNow_11 rfl rfl ?_
    refine gg_xv (As := []) (st := []) hG dX11_hasNow_12 ml_RX11_104 Y_X11_motorNow YV_X11_motorNow (by decide) ⟨_, rfl, rfl⟩ (mt_X11_motorNow h) rfl (by decide) (Nat.le_of_ble_eq_true rfl) rfl (gg_ki (fun v10 u9 h => ?_))
    refine gg_istore_n (L1 := [some (.ref 1), some (.int a1), some (.int v10), none, none]) hG dX11_hasNow_15 rfl (by decide) rfl ?_
    refine gg_iload_n hG dX11_hasNow_16 rfl rfl ?_
    refine gg_iconst (v := (-1)) hG dX11_hasNow_17 (by decide) ?_
    refine gg_ic_eq (tgt := 35) hG dX11_hasNow_18 (by decide) (fun c11 => ?_) (fun c11 => ?_)
    · replace h := h.1 c11
      refine gg_iconst (v := 0) hG dX11_hasNow_35 (by decide) ?_
      refine gg_istore_n (L1 := [some (.ref 1), some (.int a1), some (.int v10), some (.int 0), none]) hG dX11_hasNow_36 rfl (by decide) rfl ?_
      refine gg_iconst (v := 0) hG dX11_hasNow_37 (by decide) ?_
      refine gg_istore (L1 := [some (.ref 1), some (.int a1), some (.int v10), some (.int 0), some (.int 0)]) hG dX11_hasNow_38 (by decide) rfl ?_
      refine gg_mk hG [true, false, false, true, true] rfl ?_
      exact m_X11_hasNow_c40 hG h
    · replace h := h.2 c11
      refine gg_aload_n hG dX11_hasNow_21 rfl rfl ?_
      refine gg_iload_n hG dX11_hasNow_22 rfl rfl ?_
      refine gg_xv (As := [.int a1]) (st := []) hG dX11_hasNow_23 ml_RX11_209 Y_X11_runsBy YV_X11_runsBy (by decide) ⟨_, rfl, rfl⟩ (mt_X11_runsBy h) rfl (by decide) (Nat.le_of_ble_eq_true rfl) rfl (gg_ki (fun v13 u12 h => ?_))
      refine gg_if_eq (tgt := 33) hG dX11_hasNow_26 (by decide) (fun c14 => ?_) (fun c14 => ?_)
      · replace h := h.1 c14
        refine gg_iconst (v := 0) hG dX11_hasNow_33 (by decide) ?_
        refine gg_mk hG [false, false, false, false, false] rfl ?_
        exact m_X11_hasNow_c34 hG h
      · replace h := h.2 c14
        refine gg_iconst (v := 1) hG dX11_hasNow_29 (by decide) ?_
        refine gg_goto (tgt := 34) hG dX11_hasNow_30 (by decide) ?_
        refine gg_mk hG [false, false, false, false, false] rfl ?_
        exact m_X11_hasNow_c34 hG h
  · replace h := h.2 c8
    refine gg_bipush (v := (-3)) hG dX11_hasNow_8 (by decide) ?_
    exact gg_iret hG dX11_hasNow_10 rfl rfl ⟨_, rfl, h⟩
theorem mt_X11_hasNow {a1 : Int32}  {u : gg_M} {Q : Int32 → gg_M → Prop} (h : w_X11_hasNow a1 u Q) : gg_Mt 5 yX11_hasNow cX11_hasNow 5 (some .int) [.ref 1, .int a1] u (gg_eI Q) :=
  gg_intro (own := RX11) (by decide +kernel) rfl rfl (Nat.le_of_ble_eq_true rfl) (fun G hG => m_X11_hasNow hG  h)
/-! X11_has -/
def w_X11_has_c22 (z0 : Int32) (u : gg_M)  (Q : Int32 → gg_M → Prop) : Prop :=
  Q z0 u
set_option maxRecDepth 10000 in
theorem m_X11_has_c22 {z0 : Int32} {u : gg_M}  {G : gg_T} {Q : Int32 → gg_M → Prop} (hG : gg_Cl none cX11_has 2 RX11 (some .int) 6 (gg_eI Q) G)  (h : w_X11_has_c22 z0 u  Q)   : G 22 [none, none] [.int z0] u := by
  unfold w_X11_has_c22 at h
  exact gg_iret hG dX11_has_22 rfl rfl ⟨_, rfl, h⟩
def w_X11_has_c12 (a1 : Int32) (u : gg_M)  (Q : Int32 → gg_M → Prop) : Prop :=
  w_X11_hasNow a1 u (fun v2 u1 =>
  w_X11_has_c22 v2 u1 Q)
set_option maxRecDepth 10000 in
theorem m_X11_has_c12 {a1 : Int32} {u : gg_M}  {G : gg_T} {Q : Int32 → gg_M → Prop} (hG : gg_Cl none cX11_has 2 RX11 (some .int) 6 (gg_eI Q) G)  (h : w_X11_has_c12 a1 u  Q)   : G 12 [some (.ref 1), some (.int a1)] [] u := by
  unfold w_X11_has_c12 at h
  refine gg_aload_n hG dX11_has_12 rfl rfl ?_
  refine gg_iload_n hG dX11_has_13 rfl rfl ?_
  refine gg_xv (As := [.int a1]) (st := []) hG dX11_has_14 ml_RX11_217 Y_X11_hasNow YV_X11_hasNow (by decide) ⟨_, rfl, rfl⟩ (mt_X11_hasNow h) rfl (by decide) (Nat.le_of_ble_eq_true rfl) rfl (gg_ki (fun v2 u1 h => ?_))
  refine gg_goto (tgt := 22) hG dX11_has_17 (by decide) ?_
  refine gg_mk hG [false, false] rfl ?_
  exact m_X11_has_c22 hG h
def w_X11_has (a1 : Int32) (u : gg_M)  (Q : Int32 → gg_M → Prop) : Prop :=
  (a1 = (-1) →
   w_X11_has_c12 a1 u Q) ∧
  (¬ a1 = (-1) →
   w_X11_isSet a1 u (fun v5 u4 =>
   (v5 = 0 →
    w_X11_has_c22 (-2) u4 Q) ∧
   (¬ v5 = 0 →
    w_X11_has_c12 a1 u4 Q)))
set_option maxRecDepth 10000 in
theorem m_X11_has {a1 : Int32} {u : gg_M}  {G : gg_T} {Q : Int32 → gg_M → Prop} (hG : gg_Cl none cX11_has 2 RX11 (some .int) 6 (gg_eI Q) G)  (h : w_X11_has a1 u  Q)   : G 0 [some (.ref 1), some (.int a1)] [] u := by
  unfold w_X11_has at h
  refine gg_iload_n hG dX11_has_0 rfl rfl ?_
  refine gg_iconst (v := (-1)) hG dX11_has_1 (by decide) ?_
  refine gg_ic_eq (tgt := 12) hG dX11_has_2 (by decide) (fun c3 => ?_) (fun c3 => ?_)
  · replace h := h.1 c3
    exact m_X11_has_c12 hG h
  · replace h := h.2 c3
    refine gg_iload_n hG dX11_has_5 rfl rfl ?_
    refine gg_xs (As := [.int a1]) (st := []) hG dX11_has_6 ml_RX11_157 Y_X11_isSet YS_X11_isSet (mt_X11_isSet h) rfl (by decide) (Nat.le_of_ble_eq_true rfl) rfl (gg_ki (fun v5 u4 h => ?_))
    refine gg_if_eq (tgt := 20) hG dX11_has_9 (by decide) (fun c6 => ?_) (fun c6 => ?_)
    · replace h := h.1 c6
      refine gg_bipush (v := (-2)) hG dX11_has_20 (by decide) ?_
      refine gg_mk hG [false, false] rfl ?_
      exact m_X11_has_c22 hG h
    · replace h := h.2 c6
      exact m_X11_has_c12 hG h
theorem mt_X11_has {a1 : Int32}  {u : gg_M} {Q : Int32 → gg_M → Prop} (h : w_X11_has a1 u Q) : gg_Mt 6 yX11_has cX11_has 2 (some .int) [.ref 1, .int a1] u (gg_eI Q) :=
  gg_intro (own := RX11) (by decide +kernel) rfl rfl (Nat.le_of_ble_eq_true rfl) (fun G hG => m_X11_has hG  h)
/-! X11_workNow -/
def w_X11_workNow_c164 (z0 : Int64) (u : gg_M)  (Q : Int64 → gg_M → Prop) : Prop :=
  Q z0 u
set_option maxRecDepth 10000 in
theorem m_X11_workNow_c164 {z0 : Int64} {u : gg_M}  {G : gg_T} {Q : Int64 → gg_M → Prop} (hG : gg_Cl none cX11_workNow 11 RX11 (some .long) 5 (gg_eJ Q) G)  (h : w_X11_workNow_c164 z0 u  Q)   : G 164 [none, none, none, none, none, none, none, none, none, none, none] [.long z0] u := by
  unfold w_X11_workNow_c164 at h
  exact gg_lret hG dX11_workNow_164 rfl ⟨_, rfl, h⟩
def w_X11_workNow_c137 (a1 : Int32) (a3 : Int32) (a6 : Int32) (z0 : Int64) (u : gg_M) (k27 : Int32 × Int64 × Int32 × gg_M → Prop) (Q : Int64 → gg_M → Prop) : Prop :=
  k27 (a3, z0, (a6 + 1), u)
set_option maxRecDepth 10000 in
theorem m_X11_workNow_c137 {a1 : Int32} {a3 : Int32} {a6 : Int32} {z0 : Int64} {u : gg_M} {k27 : Int32 × Int64 × Int32 × gg_M → Prop} {G : gg_T} {Q : Int64 → gg_M → Prop} (hG : gg_Cl none cX11_workNow 11 RX11 (some .long) 5 (gg_eJ Q) G)  (h : w_X11_workNow_c137 a1 a3 a6 z0 u k27 Q)  (hk27 : ∀ s : Int32 × Int64 × Int32 × gg_M, k27 s → G 27 [some (.ref 1), some (.int a1), none, some (.int s.1), some (.long s.2.1), none, some (.int s.2.2.1), none, none, none, none] [] s.2.2.2) : G 137 [some (.ref 1), some (.int a1), none, some (.int a3), none, none, some (.int a6), none, none, none, none] [.long z0] u := by
  unfold w_X11_workNow_c137 at h
  refine gg_lstore (L1 := [some (.ref 1), some (.int a1), none, some (.int a3), some (.long z0), none, some (.int a6), none, none, none, none]) hG dX11_workNow_137 (by decide) rfl ?_
  refine gg_iinc (v := (a6 + 1)) (L1 := [some (.ref 1), some (.int a1), none, some (.int a3), some (.long z0), none, some (.int (a6 + 1)), none, none, none, none]) hG dX11_workNow_139 rfl rfl (by decide) rfl ?_
  refine gg_goto (tgt := 27) hG dX11_workNow_142 (by decide) ?_
  exact hk27 _ h
def w_X11_workNow_c121 (a1 : Int32) (a4 : Int64) (a6 : Int32) (a8 : Int64) (z0 : Int32) (u : gg_M) (k27 : Int32 × Int64 × Int32 × gg_M → Prop) (Q : Int64 → gg_M → Prop) : Prop :=
  ((lg_cmp a8 a4) ≤ 0 →
   w_X11_workNow_c137 a1 z0 a6 a4 u k27 Q) ∧
  (¬ (lg_cmp a8 a4) ≤ 0 →
   w_X11_workNow_c137 a1 z0 a6 a8 u k27 Q)
set_option maxRecDepth 10000 in
theorem m_X11_workNow_c121 {a1 : Int32} {a4 : Int64} {a6 : Int32} {a8 : Int64} {z0 : Int32} {u : gg_M} {k27 : Int32 × Int64 × Int32 × gg_M → Prop} {G : gg_T} {Q : Int64 → gg_M → Prop} (hG : gg_Cl none cX11_workNow 11 RX11 (some .long) 5 (gg_eJ Q) G)  (h : w_X11_workNow_c121 a1 a4 a6 a8 z0 u k27 Q)  (hk27 : ∀ s : Int32 × Int64 × Int32 × gg_M, k27 s → G 27 [some (.ref 1), some (.int a1), none, some (.int s.1), some (.long s.2.1), none, some (.int s.2.2.1), none, none, none, none] [] s.2.2.2) : G 121 [some (.ref 1), some (.int a1), none, none, some (.long a4), none, some (.int a6), none, some (.long a8), none, none] [.int z0] u := by
  unfold w_X11_workNow_c121 at h
  refine gg_istore_n (L1 := [some (.ref 1), some (.int a1), none, some (.int z0), some (.long a4), none, some (.int a6), none, some (.long a8), none, none]) hG dX11_workNow_121 rfl (by decide) rfl ?_
  refine gg_lload hG dX11_workNow_122 rfl ?_
  refine gg_lload hG dX11_workNow_124 rfl ?_
  refine gg_lcmp hG dX11_workNow_126 ?_
  refine gg_if_le (tgt := 135) hG dX11_workNow_127 (by decide) (fun c1 => ?_) (fun c1 => ?_)
  · replace h := h.1 c1
    refine gg_lload hG dX11_workNow_135 rfl ?_
    refine gg_mk hG [true, true, false, true, false, false, true, false, false, false, false] rfl ?_
    exact m_X11_workNow_c137 hG h hk27
  · replace h := h.2 c1
    refine gg_lload hG dX11_workNow_130 rfl ?_
    refine gg_goto (tgt := 137) hG dX11_workNow_132 (by decide) ?_
    refine gg_mk hG [true, true, false, true, false, false, true, false, false, false, false] rfl ?_
    exact m_X11_workNow_c137 hG h hk27
def w_X11_workNow_c115 (a1 : Int32) (a4 : Int64) (a6 : Int32) (a8 : Int64) (u : gg_M) (k27 : Int32 × Int64 × Int32 × gg_M → Prop) (Q : Int64 → gg_M → Prop) : Prop :=
  w_X11_workNow_c121 a1 a4 a6 a8 a6 u k27 Q
set_option maxRecDepth 10000 in
theorem m_X11_workNow_c115 {a1 : Int32} {a4 : Int64} {a6 : Int32} {a8 : Int64} {u : gg_M} {k27 : Int32 × Int64 × Int32 × gg_M → Prop} {G : gg_T} {Q : Int64 → gg_M → Prop} (hG : gg_Cl none cX11_workNow 11 RX11 (some .long) 5 (gg_eJ Q) G)  (h : w_X11_workNow_c115 a1 a4 a6 a8 u k27 Q)  (hk27 : ∀ s : Int32 × Int64 × Int32 × gg_M, k27 s → G 27 [some (.ref 1), some (.int a1), none, some (.int s.1), some (.long s.2.1), none, some (.int s.2.2.1), none, none, none, none] [] s.2.2.2) : G 115 [some (.ref 1), some (.int a1), none, none, some (.long a4), none, some (.int a6), none, some (.long a8), none, none] [] u := by
  unfold w_X11_workNow_c115 at h
  refine gg_iload hG dX11_workNow_115 rfl ?_
  refine gg_goto (tgt := 121) hG dX11_workNow_117 (by decide) ?_
  exact m_X11_workNow_c121 hG h hk27
def w_X11_workNow_c84 (a1 : Int32) (a3 : Int32) (a4 : Int64) (a6 : Int32) (a7 : Int32) (a10 : Int32) (z0 : Int64) (z1 : Int64) (u : gg_M) (k27 : Int32 × Int64 × Int32 × gg_M → Prop) (k56 : Int64 × Int32 × gg_M → Prop) (Q : Int64 → gg_M → Prop) : Prop :=
  ∀ v2 : Int64, v2 = (z0 + z1) →
  k56 (v2, (a10 + 1), u)
set_option maxRecDepth 10000 in
theorem m_X11_workNow_c84 {a1 : Int32} {a3 : Int32} {a4 : Int64} {a6 : Int32} {a7 : Int32} {a10 : Int32} {z0 : Int64} {z1 : Int64} {u : gg_M} {k27 : Int32 × Int64 × Int32 × gg_M → Prop} {k56 : Int64 × Int32 × gg_M → Prop} {G : gg_T} {Q : Int64 → gg_M → Prop} (hG : gg_Cl none cX11_workNow 11 RX11 (some .long) 5 (gg_eJ Q) G)  (h : w_X11_workNow_c84 a1 a3 a4 a6 a7 a10 z0 z1 u k27 k56 Q)  (hk27 : ∀ s : Int32 × Int64 × Int32 × gg_M, k27 s → G 27 [some (.ref 1), some (.int a1), none, some (.int s.1), some (.long s.2.1), none, some (.int s.2.2.1), none, none, none, none] [] s.2.2.2) (hk56 : ∀ s : Int64 × Int32 × gg_M, k56 s → G 56 [some (.ref 1), some (.int a1), none, some (.int a3), some (.long a4), none, some (.int a6), some (.int a7), some (.long s.1), none, some (.int s.2.1)] [] s.2.2) : G 84 [some (.ref 1), some (.int a1), none, some (.int a3), some (.long a4), none, some (.int a6), some (.int a7), none, none, some (.int a10)] [.long z1, .long z0] u := by
  unfold w_X11_workNow_c84 at h
  refine gg_ladd hG dX11_workNow_84 ?_
  refine gg_nl (fun v2 e2 => ?_)
  replace h := h v2 e2
  refine gg_lstore (L1 := [some (.ref 1), some (.int a1), none, some (.int a3), some (.long a4), none, some (.int a6), some (.int a7), some (.long v2), none, some (.int a10)]) hG dX11_workNow_85 (by decide) rfl ?_
  refine gg_iinc (v := (a10 + 1)) (L1 := [some (.ref 1), some (.int a1), none, some (.int a3), some (.long a4), none, some (.int a6), some (.int a7), some (.long v2), none, some (.int (a10 + 1))]) hG dX11_workNow_87 rfl rfl (by decide) rfl ?_
  refine gg_goto (tgt := 56) hG dX11_workNow_90 (by decide) ?_
  exact hk56 _ h
def b_X11_workNow_c56 (a1 : Int32) (a3 : Int32) (a4 : Int64) (a6 : Int32) (a7 : Int32) (a8 : Int64) (a10 : Int32) (u : gg_M) (k27 : Int32 × Int64 × Int32 × gg_M → Prop) (k56 : Int64 × Int32 × gg_M → Prop) (Q : Int64 → gg_M → Prop) : Prop :=
  (32 ≤ a10 →
   vp_in a6 5 ∧
   ∀ u5 : gg_M, u5 = gg_wI u 52 a6.toNatClampNeg a7 →
   (a3 = (-1) →
    w_X11_workNow_c115 a1 a4 a6 a8 u5 k27 Q) ∧
   (¬ a3 = (-1) →
    ((lg_cmp a8 a4) ≤ 0 →
     w_X11_workNow_c121 a1 a4 a6 a8 a3 u5 k27 Q) ∧
    (¬ (lg_cmp a8 a4) ≤ 0 →
     w_X11_workNow_c115 a1 a4 a6 a8 u5 k27 Q))) ∧
  (¬ 32 ≤ a10 →
   w_X11_runsBy a10 u (fun v9 u8 =>
   (v9 = 0 →
    w_X11_workNow_c84 a1 a3 a4 a6 a7 a10 a8 0 u8 k27 k56 Q) ∧
   (¬ v9 = 0 →
    w_X11_partsOf a10 u8 (fun v12 u11 =>
    w_X11_workNow_c84 a1 a3 a4 a6 a7 a10 a8 v12 u11 k27 k56 Q))))
set_option maxRecDepth 10000 in
theorem mb_X11_workNow_c56 {a1 : Int32} {a3 : Int32} {a4 : Int64} {a6 : Int32} {a7 : Int32} {a8 : Int64} {a10 : Int32} {u : gg_M} {k27 : Int32 × Int64 × Int32 × gg_M → Prop} {k56 : Int64 × Int32 × gg_M → Prop} {G : gg_T} {Q : Int64 → gg_M → Prop} (hG : gg_Cl none cX11_workNow 11 RX11 (some .long) 5 (gg_eJ Q) G)  (h : b_X11_workNow_c56 a1 a3 a4 a6 a7 a8 a10 u k27 k56 Q)  (hk27 : ∀ s : Int32 × Int64 × Int32 × gg_M, k27 s → G 27 [some (.ref 1), some (.int a1), none, some (.int s.1), some (.long s.2.1), none, some (.int s.2.2.1), none, none, none, none] [] s.2.2.2) (hk56 : ∀ s : Int64 × Int32 × gg_M, k56 s → G 56 [some (.ref 1), some (.int a1), none, some (.int a3), some (.long a4), none, some (.int a6), some (.int a7), some (.long s.1), none, some (.int s.2.1)] [] s.2.2) : G 56 [some (.ref 1), some (.int a1), none, some (.int a3), some (.long a4), none, some (.int a6), some (.int a7), some (.long a8), none, some (.int a10)] [] u := by
  unfold b_X11_workNow_c56 at h
  refine gg_iload hG dX11_workNow_56 rfl ?_
  refine gg_bipush (v := 32) hG dX11_workNow_58 (by decide) ?_
  refine gg_ic_ge (tgt := 93) hG dX11_workNow_60 (by decide) (fun c3 => ?_) (fun c3 => ?_)
  · replace h := h.1 c3
    refine gg_aload_n hG dX11_workNow_93 rfl rfl ?_
    refine gg_get (v := .ref 52) hG dX11_workNow_94 (by decide) rfl fl_RX11_25 rfl ?_
    refine gg_iload hG dX11_workNow_97 rfl ?_
    refine gg_iload hG dX11_workNow_99 rfl ?_
    obtain ⟨h4, h⟩ := h
    refine gg_iast (j := a6.toNatClampNeg) hG dX11_workNow_101 (by decide) rfl h4 rfl ?_
    refine gg_nu (fun u5 eu5 => ?_)
    replace h := h u5 eu5
    refine gg_iload_n hG dX11_workNow_102 rfl rfl ?_
    refine gg_iconst (v := (-1)) hG dX11_workNow_103 (by decide) ?_
    refine gg_ic_eq (tgt := 115) hG dX11_workNow_104 (by decide) (fun c6 => ?_) (fun c6 => ?_)
    · replace h := h.1 c6
      refine gg_mk hG [true, true, false, false, true, false, true, false, true, false, false] rfl ?_
      exact m_X11_workNow_c115 hG h hk27
    · replace h := h.2 c6
      refine gg_lload hG dX11_workNow_107 rfl ?_
      refine gg_lload hG dX11_workNow_109 rfl ?_
      refine gg_lcmp hG dX11_workNow_111 ?_
      refine gg_if_le (tgt := 120) hG dX11_workNow_112 (by decide) (fun c7 => ?_) (fun c7 => ?_)
      · replace h := h.1 c7
        refine gg_iload_n hG dX11_workNow_120 rfl rfl ?_
        refine gg_mk hG [true, true, false, false, true, false, true, false, true, false, false] rfl ?_
        exact m_X11_workNow_c121 hG h hk27
      · replace h := h.2 c7
        refine gg_mk hG [true, true, false, false, true, false, true, false, true, false, false] rfl ?_
        exact m_X11_workNow_c115 hG h hk27
  · replace h := h.2 c3
    refine gg_lload hG dX11_workNow_63 rfl ?_
    refine gg_aload_n hG dX11_workNow_65 rfl rfl ?_
    refine gg_iload hG dX11_workNow_66 rfl ?_
    refine gg_xv (As := [.int a10]) (st := [.long a8]) hG dX11_workNow_68 ml_RX11_209 Y_X11_runsBy YV_X11_runsBy (by decide) ⟨_, rfl, rfl⟩ (mt_X11_runsBy h) rfl (by decide) (Nat.le_of_ble_eq_true rfl) rfl (gg_ki (fun v9 u8 h => ?_))
    refine gg_if_eq (tgt := 83) hG dX11_workNow_71 (by decide) (fun c10 => ?_) (fun c10 => ?_)
    · replace h := h.1 c10
      refine gg_lconst (v := 0) hG dX11_workNow_83 (by decide) ?_
      refine gg_mk hG [true, true, false, true, true, false, true, true, false, false, true] rfl ?_
      exact m_X11_workNow_c84 hG h hk27 hk56
    · replace h := h.2 c10
      refine gg_aload_n hG dX11_workNow_74 rfl rfl ?_
      refine gg_iload hG dX11_workNow_75 rfl ?_
      refine gg_xv (As := [.int a10]) (st := [.long a8]) hG dX11_workNow_77 ml_RX11_147 Y_X11_partsOf YV_X11_partsOf (by decide) ⟨_, rfl, rfl⟩ (mt_X11_partsOf h) rfl (by decide) (Nat.le_of_ble_eq_true rfl) rfl (gg_kj (fun v12 u11 h => ?_))
      refine gg_goto (tgt := 84) hG dX11_workNow_80 (by decide) ?_
      refine gg_mk hG [true, true, false, true, true, false, true, true, false, false, true] rfl ?_
      exact m_X11_workNow_c84 hG h hk27 hk56
def w_X11_workNow_c56 (a1 : Int32) (a3 : Int32) (a4 : Int64) (a6 : Int32) (a7 : Int32) (a8 : Int64) (a10 : Int32) (u : gg_M) (k27 : Int32 × Int64 × Int32 × gg_M → Prop) (Q : Int64 → gg_M → Prop) : Prop :=
  gg_loop (fun (s : Int64 × Int32 × gg_M) k56 => b_X11_workNow_c56 a1 a3 a4 a6 a7 s.1 s.2.1 s.2.2 k27 k56 Q) (a8, a10, u)
set_option maxRecDepth 10000 in
theorem m_X11_workNow_c56 {a1 : Int32} {a3 : Int32} {a4 : Int64} {a6 : Int32} {a7 : Int32} {a8 : Int64} {a10 : Int32} {u : gg_M} {k27 : Int32 × Int64 × Int32 × gg_M → Prop} {G : gg_T} {Q : Int64 → gg_M → Prop} (hG : gg_Cl none cX11_workNow 11 RX11 (some .long) 5 (gg_eJ Q) G)  (h : w_X11_workNow_c56 a1 a3 a4 a6 a7 a8 a10 u k27 Q)  (hk27 : ∀ s : Int32 × Int64 × Int32 × gg_M, k27 s → G 27 [some (.ref 1), some (.int a1), none, some (.int s.1), some (.long s.2.1), none, some (.int s.2.2.1), none, none, none, none] [] s.2.2.2) : G 56 [some (.ref 1), some (.int a1), none, some (.int a3), some (.long a4), none, some (.int a6), some (.int a7), some (.long a8), none, some (.int a10)] [] u :=
  gg_loop_use (P := fun s : Int64 × Int32 × gg_M => G 56 [some (.ref 1), some (.int a1), none, some (.int a3), some (.long a4), none, some (.int a6), some (.int a7), some (.long s.1), none, some (.int s.2.1)] [] s.2.2) h (fun s rc hb hr => mb_X11_workNow_c56 hG  hb  hk27 hr)
def b_X11_workNow_c27 (a1 : Int32) (a3 : Int32) (a4 : Int64) (a6 : Int32) (u : gg_M)  (k27 : Int32 × Int64 × Int32 × gg_M → Prop) (Q : Int64 → gg_M → Prop) : Prop :=
  (5 ≤ a6 →
   (¬ a1 = 2 →
    w_X11_lowest a4 1048576 a1 u (fun v16 u15 =>
    w_X11_workNow_c164 v16 u15 Q)) ∧
   (a1 = 2 →
    w_X11_workNow_c164 a3.toInt64 u Q)) ∧
  (¬ 5 ≤ a6 →
   vp_in a6 5 ∧
   ∀ v18 : Int32, v18 = (u.1 52 a6.toNatClampNeg) →
   vp_in a6 5 ∧
   ∀ u20 : gg_M, u20 = gg_wI u 52 a6.toNatClampNeg 0 →
   w_X11_workNow_c56 a1 a3 a4 a6 v18 0 0 u20 k27 Q)
set_option maxRecDepth 10000 in
theorem mb_X11_workNow_c27 {a1 : Int32} {a3 : Int32} {a4 : Int64} {a6 : Int32} {u : gg_M}  {k27 : Int32 × Int64 × Int32 × gg_M → Prop} {G : gg_T} {Q : Int64 → gg_M → Prop} (hG : gg_Cl none cX11_workNow 11 RX11 (some .long) 5 (gg_eJ Q) G)  (h : b_X11_workNow_c27 a1 a3 a4 a6 u k27 Q)   (hk27 : ∀ s : Int32 × Int64 × Int32 × gg_M, k27 s → G 27 [some (.ref 1), some (.int a1), none, some (.int s.1), some (.long s.2.1), none, some (.int s.2.2.1), none, none, none, none] [] s.2.2.2) : G 27 [some (.ref 1), some (.int a1), none, some (.int a3), some (.long a4), none, some (.int a6), none, none, none, none] [] u := by
  unfold b_X11_workNow_c27 at h
  refine gg_iload hG dX11_workNow_27 rfl ?_
  refine gg_iconst (v := 5) hG dX11_workNow_29 (by decide) ?_
  refine gg_ic_ge (tgt := 145) hG dX11_workNow_30 (by decide) (fun c13 => ?_) (fun c13 => ?_)
  · replace h := h.1 c13
    refine gg_iload_n hG dX11_workNow_145 rfl rfl ?_
    refine gg_iconst (v := 2) hG dX11_workNow_146 (by decide) ?_
    refine gg_ic_ne (tgt := 155) hG dX11_workNow_147 (by decide) (fun c14 => ?_) (fun c14 => ?_)
    · replace h := h.1 c14
      refine gg_lload hG dX11_workNow_155 rfl ?_
      refine gg_ldc2 hG dX11_workNow_157 fc_RX11_212 ?_
      refine gg_iload_n hG dX11_workNow_160 rfl rfl ?_
      refine gg_xs (As := [.long a4, .long 1048576, .int a1]) (st := []) hG dX11_workNow_161 ml_RX11_163 Y_X11_lowest YS_X11_lowest (mt_X11_lowest h) rfl (by decide) (Nat.le_of_ble_eq_true rfl) rfl (gg_kj (fun v16 u15 h => ?_))
      refine gg_mk hG [false, false, false, false, false, false, false, false, false, false, false] rfl ?_
      exact m_X11_workNow_c164 hG h
    · replace h := h.2 c14
      refine gg_iload_n hG dX11_workNow_150 rfl rfl ?_
      refine gg_i2l hG dX11_workNow_151 ?_
      refine gg_goto (tgt := 164) hG dX11_workNow_152 (by decide) ?_
      refine gg_mk hG [false, false, false, false, false, false, false, false, false, false, false] rfl ?_
      exact m_X11_workNow_c164 hG h
  · replace h := h.2 c13
    refine gg_aload_n hG dX11_workNow_33 rfl rfl ?_
    refine gg_get (v := .ref 52) hG dX11_workNow_34 (by decide) rfl fl_RX11_25 rfl ?_
    refine gg_iload hG dX11_workNow_37 rfl ?_
    obtain ⟨h17, h⟩ := h
    refine gg_iald (j := a6.toNatClampNeg) hG dX11_workNow_39 (by decide) rfl h17 rfl ?_
    refine gg_ni (fun v18 e18 => ?_)
    replace h := h v18 e18
    refine gg_istore (L1 := [some (.ref 1), some (.int a1), none, some (.int a3), some (.long a4), none, some (.int a6), some (.int v18), none, none, none]) hG dX11_workNow_40 (by decide) rfl ?_
    refine gg_aload_n hG dX11_workNow_42 rfl rfl ?_
    refine gg_get (v := .ref 52) hG dX11_workNow_43 (by decide) rfl fl_RX11_25 rfl ?_
    refine gg_iload hG dX11_workNow_46 rfl ?_
    refine gg_iconst (v := 0) hG dX11_workNow_48 (by decide) ?_
    obtain ⟨h19, h⟩ := h
    refine gg_iast (j := a6.toNatClampNeg) hG dX11_workNow_49 (by decide) rfl h19 rfl ?_
    refine gg_nu (fun u20 eu20 => ?_)
    replace h := h u20 eu20
    refine gg_lconst (v := 0) hG dX11_workNow_50 (by decide) ?_
    refine gg_lstore (L1 := [some (.ref 1), some (.int a1), none, some (.int a3), some (.long a4), none, some (.int a6), some (.int v18), some (.long 0), none, none]) hG dX11_workNow_51 (by decide) rfl ?_
    refine gg_iconst (v := 0) hG dX11_workNow_53 (by decide) ?_
    refine gg_istore (L1 := [some (.ref 1), some (.int a1), none, some (.int a3), some (.long a4), none, some (.int a6), some (.int v18), some (.long 0), none, some (.int 0)]) hG dX11_workNow_54 (by decide) rfl ?_
    exact m_X11_workNow_c56 hG h hk27
def w_X11_workNow_c27 (a1 : Int32) (a3 : Int32) (a4 : Int64) (a6 : Int32) (u : gg_M)  (Q : Int64 → gg_M → Prop) : Prop :=
  gg_loop (fun (s : Int32 × Int64 × Int32 × gg_M) k27 => b_X11_workNow_c27 a1 s.1 s.2.1 s.2.2.1 s.2.2.2  k27 Q) (a3, a4, a6, u)
set_option maxRecDepth 10000 in
theorem m_X11_workNow_c27 {a1 : Int32} {a3 : Int32} {a4 : Int64} {a6 : Int32} {u : gg_M}  {G : gg_T} {Q : Int64 → gg_M → Prop} (hG : gg_Cl none cX11_workNow 11 RX11 (some .long) 5 (gg_eJ Q) G)  (h : w_X11_workNow_c27 a1 a3 a4 a6 u  Q)   : G 27 [some (.ref 1), some (.int a1), none, some (.int a3), some (.long a4), none, some (.int a6), none, none, none, none] [] u :=
  gg_loop_use (P := fun s : Int32 × Int64 × Int32 × gg_M => G 27 [some (.ref 1), some (.int a1), none, some (.int s.1), some (.long s.2.1), none, some (.int s.2.2.1), none, none, none, none] [] s.2.2.2) h (fun s rc hb hr => mb_X11_workNow_c27 hG  hb   hr)
def w_X11_workNow (a1 : Int32) (u : gg_M)  (Q : Int64 → gg_M → Prop) : Prop :=
  w_X11_habitNow u (fun v22 u21 =>
  (v22 = (-1) →
   w_X11_motorNow u21 (fun v25 u24 =>
   w_X11_workNow_c27 a1 (-1) 0 0 u24 Q)) ∧
  (¬ v22 = (-1) →
   w_X11_no (-3) u21 (fun v27 u26 =>
   Q v27 u26)))
set_option maxRecDepth 10000 in
theorem m_X11_workNow {a1 : Int32} {u : gg_M}  {G : gg_T} {Q : Int64 → gg_M → Prop} (hG : gg_Cl none cX11_workNow 11 RX11 (some .long) 5 (gg_eJ Q) G)  (h : w_X11_workNow a1 u  Q)   : G 0 [some (.ref 1), some (.int a1), none, none, none, none, none, none, none, none, none] [] u := by
  unfold w_X11_workNow at h
  refine gg_aload_n hG dX11_workNow_0 rfl rfl ?_
  refine gg_xv (As := []) (st := []) hG dX11_workNow_1 ml_RX11_107 Y_X11_habitNow YV_X11_habitNow (by decide) ⟨_, rfl, rfl⟩ (mt_X11_habitNow h) rfl (by decide) (Nat.le_of_ble_eq_true rfl) rfl (gg_ki (fun v22 u21 h => ?_))
  refine gg_iconst (v := (-1)) hG dX11_workNow_4 (by decide) ?_
  refine gg_ic_eq (tgt := 14) hG dX11_workNow_5 (by decide) (fun c23 => ?_) (fun c23 => ?_)
  · replace h := h.1 c23
    refine gg_aload_n hG dX11_workNow_14 rfl rfl ?_
    refine gg_xv (As := []) (st := []) hG dX11_workNow_15 ml_RX11_104 Y_X11_motorNow YV_X11_motorNow (by decide) ⟨_, rfl, rfl⟩ (mt_X11_motorNow h) rfl (by decide) (Nat.le_of_ble_eq_true rfl) rfl (gg_ki (fun v25 u24 h => ?_))
    refine gg_istore_n (L1 := [some (.ref 1), some (.int a1), some (.int v25), none, none, none, none, none, none, none, none]) hG dX11_workNow_18 rfl (by decide) rfl ?_
    refine gg_iconst (v := (-1)) hG dX11_workNow_19 (by decide) ?_
    refine gg_istore_n (L1 := [some (.ref 1), some (.int a1), some (.int v25), some (.int (-1)), none, none, none, none, none, none, none]) hG dX11_workNow_20 rfl (by decide) rfl ?_
    refine gg_lconst (v := 0) hG dX11_workNow_21 (by decide) ?_
    refine gg_lstore (L1 := [some (.ref 1), some (.int a1), some (.int v25), some (.int (-1)), some (.long 0), none, none, none, none, none, none]) hG dX11_workNow_22 (by decide) rfl ?_
    refine gg_iconst (v := 0) hG dX11_workNow_24 (by decide) ?_
    refine gg_istore (L1 := [some (.ref 1), some (.int a1), some (.int v25), some (.int (-1)), some (.long 0), none, some (.int 0), none, none, none, none]) hG dX11_workNow_25 (by decide) rfl ?_
    refine gg_mk hG [true, true, false, true, true, false, true, false, false, false, false] rfl ?_
    exact m_X11_workNow_c27 hG h
  · replace h := h.2 c23
    refine gg_bipush (v := (-3)) hG dX11_workNow_8 (by decide) ?_
    refine gg_xs (As := [.int (-3)]) (st := []) hG dX11_workNow_10 ml_RX11_160 Y_X11_no YS_X11_no (mt_X11_no h) rfl (by decide) (Nat.le_of_ble_eq_true rfl) rfl (gg_kj (fun v27 u26 h => ?_))
    exact gg_lret hG dX11_workNow_13 rfl ⟨_, rfl, h⟩
theorem mt_X11_workNow {a1 : Int32}  {u : gg_M} {Q : Int64 → gg_M → Prop} (h : w_X11_workNow a1 u Q) : gg_Mt 5 yX11_workNow cX11_workNow 11 (some .long) [.ref 1, .int a1] u (gg_eJ Q) :=
  gg_intro (own := RX11) (by decide +kernel) rfl rfl (Nat.le_of_ble_eq_true rfl) (fun G hG => m_X11_workNow hG  h)
/-! X11_work -/
def w_X11_work_c22 (z0 : Int64) (u : gg_M)  (Q : Int64 → gg_M → Prop) : Prop :=
  Q z0 u
set_option maxRecDepth 10000 in
theorem m_X11_work_c22 {z0 : Int64} {u : gg_M}  {G : gg_T} {Q : Int64 → gg_M → Prop} (hG : gg_Cl none cX11_work 2 RX11 (some .long) 6 (gg_eJ Q) G)  (h : w_X11_work_c22 z0 u  Q)   : G 22 [none, none] [.long z0] u := by
  unfold w_X11_work_c22 at h
  exact gg_lret hG dX11_work_22 rfl ⟨_, rfl, h⟩
def w_X11_work (a1 : Int32) (u : gg_M)  (Q : Int64 → gg_M → Prop) : Prop :=
  w_X11_in a1 0 2 u (fun v2 u1 =>
  (v2 = 0 →
   w_X11_no (-2) u1 (fun v5 u4 =>
   w_X11_work_c22 v5 u4 Q)) ∧
  (¬ v2 = 0 →
   w_X11_workNow a1 u1 (fun v7 u6 =>
   w_X11_work_c22 v7 u6 Q)))
set_option maxRecDepth 10000 in
theorem m_X11_work {a1 : Int32} {u : gg_M}  {G : gg_T} {Q : Int64 → gg_M → Prop} (hG : gg_Cl none cX11_work 2 RX11 (some .long) 6 (gg_eJ Q) G)  (h : w_X11_work a1 u  Q)   : G 0 [some (.ref 1), some (.int a1)] [] u := by
  unfold w_X11_work at h
  refine gg_iload_n hG dX11_work_0 rfl rfl ?_
  refine gg_iconst (v := 0) hG dX11_work_1 (by decide) ?_
  refine gg_iconst (v := 2) hG dX11_work_2 (by decide) ?_
  refine gg_xs (As := [.int a1, .int 0, .int 2]) (st := []) hG dX11_work_3 ml_RX11_68 Y_X11_in YS_X11_in (mt_X11_in h) rfl (by decide) (Nat.le_of_ble_eq_true rfl) rfl (gg_ki (fun v2 u1 h => ?_))
  refine gg_if_eq (tgt := 17) hG dX11_work_6 (by decide) (fun c3 => ?_) (fun c3 => ?_)
  · replace h := h.1 c3
    refine gg_bipush (v := (-2)) hG dX11_work_17 (by decide) ?_
    refine gg_xs (As := [.int (-2)]) (st := []) hG dX11_work_19 ml_RX11_160 Y_X11_no YS_X11_no (mt_X11_no h) rfl (by decide) (Nat.le_of_ble_eq_true rfl) rfl (gg_kj (fun v5 u4 h => ?_))
    refine gg_mk hG [false, false] rfl ?_
    exact m_X11_work_c22 hG h
  · replace h := h.2 c3
    refine gg_aload_n hG dX11_work_9 rfl rfl ?_
    refine gg_iload_n hG dX11_work_10 rfl rfl ?_
    refine gg_xv (As := [.int a1]) (st := []) hG dX11_work_11 ml_RX11_220 Y_X11_workNow YV_X11_workNow (by decide) ⟨_, rfl, rfl⟩ (mt_X11_workNow h) rfl (by decide) (Nat.le_of_ble_eq_true rfl) rfl (gg_kj (fun v7 u6 h => ?_))
    refine gg_goto (tgt := 22) hG dX11_work_14 (by decide) ?_
    refine gg_mk hG [false, false] rfl ?_
    exact m_X11_work_c22 hG h
theorem mt_X11_work {a1 : Int32}  {u : gg_M} {Q : Int64 → gg_M → Prop} (h : w_X11_work a1 u Q) : gg_Mt 6 yX11_work cX11_work 2 (some .long) [.ref 1, .int a1] u (gg_eJ Q) :=
  gg_intro (own := RX11) (by decide +kernel) rfl rfl (Nat.le_of_ble_eq_true rfl) (fun G hG => m_X11_work hG  h)
/-! X11_drownedNow -/
def w_X11_drownedNow_c43  (u : gg_M)  (Q : Int32 → gg_M → Prop) : Prop :=
  Q (-1) u
set_option maxRecDepth 10000 in
theorem m_X11_drownedNow_c43  {u : gg_M}  {G : gg_T} {Q : Int32 → gg_M → Prop} (hG : gg_Cl none cX11_drownedNow 6 RX11 (some .int) 4 (gg_eI Q) G)  (h : w_X11_drownedNow_c43  u  Q)   : G 43 [none, none, none, none, none, none] [] u := by
  unfold w_X11_drownedNow_c43 at h
  refine gg_iconst (v := (-1)) hG dX11_drownedNow_43 (by decide) ?_
  exact gg_iret hG dX11_drownedNow_44 rfl rfl ⟨_, rfl, h⟩
def b_X11_drownedNow_c14 (a1 : Int32) (a2 : Int32) (a4 : Int32) (u : gg_M)  (k14 : Int32 × gg_M → Prop) (Q : Int32 → gg_M → Prop) : Prop :=
  (200 ≤ a4 →
   Q (-1) u) ∧
  (¬ 200 ≤ a4 →
   w_X11_does 1 a1 a2 u (fun v3 u2 =>
   (v3 = 4 →
    w_X11_drownedNow_c43 u2 Q) ∧
   (¬ v3 = 4 →
    (¬ v3 = 2 →
     vp_in (((256 : Int32) + ((8 : Int32) * a1)) + 3) 1024 ∧
     ((u2.1 51 ((((256 : Int32) + ((8 : Int32) * a1)) + 3).toNatClampNeg)) < 6 →
      k14 ((a4 + 1), u2)) ∧
     (¬ (u2.1 51 ((((256 : Int32) + ((8 : Int32) * a1)) + 3).toNatClampNeg)) < 6 →
      Q a4 u2)) ∧
    (v3 = 2 →
     w_X11_drownedNow_c43 u2 Q))))
set_option maxRecDepth 10000 in
theorem mb_X11_drownedNow_c14 {a1 : Int32} {a2 : Int32} {a4 : Int32} {u : gg_M}  {k14 : Int32 × gg_M → Prop} {G : gg_T} {Q : Int32 → gg_M → Prop} (hG : gg_Cl none cX11_drownedNow 6 RX11 (some .int) 4 (gg_eI Q) G)  (h : b_X11_drownedNow_c14 a1 a2 a4 u k14 Q)   (hk14 : ∀ s : Int32 × gg_M, k14 s → G 14 [some (.ref 1), some (.int a1), some (.int a2), none, some (.int s.1), none] [] s.2) : G 14 [some (.ref 1), some (.int a1), some (.int a2), none, some (.int a4), none] [] u := by
  unfold b_X11_drownedNow_c14 at h
  refine gg_iload hG dX11_drownedNow_14 rfl ?_
  refine gg_sipush (v := 200) hG dX11_drownedNow_16 (by decide) ?_
  refine gg_ic_ge (tgt := 74) hG dX11_drownedNow_19 (by decide) (fun c1 => ?_) (fun c1 => ?_)
  · replace h := h.1 c1
    refine gg_iconst (v := (-1)) hG dX11_drownedNow_74 (by decide) ?_
    exact gg_iret hG dX11_drownedNow_75 rfl rfl ⟨_, rfl, h⟩
  · replace h := h.2 c1
    refine gg_aload_n hG dX11_drownedNow_22 rfl rfl ?_
    refine gg_iconst (v := 1) hG dX11_drownedNow_23 (by decide) ?_
    refine gg_iload_n hG dX11_drownedNow_24 rfl rfl ?_
    refine gg_iload_n hG dX11_drownedNow_25 rfl rfl ?_
    refine gg_xv (As := [.int 1, .int a1, .int a2]) (st := []) hG dX11_drownedNow_26 ml_RX11_143 Y_X11_does YV_X11_does (by decide) ⟨_, rfl, rfl⟩ (mt_X11_does h) rfl (by decide) (Nat.le_of_ble_eq_true rfl) rfl (gg_ki (fun v3 u2 h => ?_))
    refine gg_istore (L1 := [some (.ref 1), some (.int a1), some (.int a2), none, some (.int a4), some (.int v3)]) hG dX11_drownedNow_29 (by decide) rfl ?_
    refine gg_iload hG dX11_drownedNow_31 rfl ?_
    refine gg_iconst (v := 4) hG dX11_drownedNow_33 (by decide) ?_
    refine gg_ic_eq (tgt := 43) hG dX11_drownedNow_34 (by decide) (fun c4 => ?_) (fun c4 => ?_)
    · replace h := h.1 c4
      refine gg_mk hG [false, false, false, false, false, false] rfl ?_
      exact m_X11_drownedNow_c43 hG h
    · replace h := h.2 c4
      refine gg_iload hG dX11_drownedNow_37 rfl ?_
      refine gg_iconst (v := 2) hG dX11_drownedNow_39 (by decide) ?_
      refine gg_ic_ne (tgt := 45) hG dX11_drownedNow_40 (by decide) (fun c5 => ?_) (fun c5 => ?_)
      · replace h := h.1 c5
        refine gg_aload_n hG dX11_drownedNow_45 rfl rfl ?_
        refine gg_get (v := .ref 51) hG dX11_drownedNow_46 (by decide) rfl fl_RX11_22 rfl ?_
        refine gg_sipush (v := 256) hG dX11_drownedNow_49 (by decide) ?_
        refine gg_bipush (v := 8) hG dX11_drownedNow_52 (by decide) ?_
        refine gg_iload_n hG dX11_drownedNow_54 rfl rfl ?_
        refine gg_imul hG dX11_drownedNow_55 ?_
        refine gg_iadd hG dX11_drownedNow_56 ?_
        refine gg_iconst (v := 3) hG dX11_drownedNow_57 (by decide) ?_
        refine gg_iadd hG dX11_drownedNow_58 ?_
        obtain ⟨h6, h⟩ := h
        refine gg_iald (j := (((256 : Int32) + ((8 : Int32) * a1)) + 3).toNatClampNeg) hG dX11_drownedNow_59 (by decide) rfl h6 rfl ?_
        refine gg_bipush (v := 6) hG dX11_drownedNow_60 (by decide) ?_
        refine gg_ic_lt (tgt := 68) hG dX11_drownedNow_62 (by decide) (fun c7 => ?_) (fun c7 => ?_)
        · replace h := h.1 c7
          refine gg_iinc (v := (a4 + 1)) (L1 := [some (.ref 1), some (.int a1), some (.int a2), none, some (.int (a4 + 1)), some (.int v3)]) hG dX11_drownedNow_68 rfl rfl (by decide) rfl ?_
          refine gg_goto (tgt := 14) hG dX11_drownedNow_71 (by decide) ?_
          refine gg_mk hG [true, true, true, false, true, false] rfl ?_
          exact hk14 _ h
        · replace h := h.2 c7
          refine gg_iload hG dX11_drownedNow_65 rfl ?_
          exact gg_iret hG dX11_drownedNow_67 rfl rfl ⟨_, rfl, h⟩
      · replace h := h.2 c5
        refine gg_mk hG [false, false, false, false, false, false] rfl ?_
        exact m_X11_drownedNow_c43 hG h
def w_X11_drownedNow_c14 (a1 : Int32) (a2 : Int32) (a4 : Int32) (u : gg_M)  (Q : Int32 → gg_M → Prop) : Prop :=
  gg_loop (fun (s : Int32 × gg_M) k14 => b_X11_drownedNow_c14 a1 a2 s.1 s.2  k14 Q) (a4, u)
set_option maxRecDepth 10000 in
theorem m_X11_drownedNow_c14 {a1 : Int32} {a2 : Int32} {a4 : Int32} {u : gg_M}  {G : gg_T} {Q : Int32 → gg_M → Prop} (hG : gg_Cl none cX11_drownedNow 6 RX11 (some .int) 4 (gg_eI Q) G)  (h : w_X11_drownedNow_c14 a1 a2 a4 u  Q)   : G 14 [some (.ref 1), some (.int a1), some (.int a2), none, some (.int a4), none] [] u :=
  gg_loop_use (P := fun s : Int32 × gg_M => G 14 [some (.ref 1), some (.int a1), some (.int a2), none, some (.int s.1), none] [] s.2) h (fun s rc hb hr => mb_X11_drownedNow_c14 hG  hb   hr)
def w_X11_drownedNow (a1 : Int32) (a2 : Int32) (u : gg_M)  (Q : Int32 → gg_M → Prop) : Prop :=
  w_X11_motorNow u (fun v9 u8 =>
  w_X11_begins 1 a1 u8 (fun u10 =>
  w_X11_drownedNow_c14 a1 a2 1 u10 Q))
set_option maxRecDepth 10000 in
theorem m_X11_drownedNow {a1 : Int32} {a2 : Int32} {u : gg_M}  {G : gg_T} {Q : Int32 → gg_M → Prop} (hG : gg_Cl none cX11_drownedNow 6 RX11 (some .int) 4 (gg_eI Q) G)  (h : w_X11_drownedNow a1 a2 u  Q)   : G 0 [some (.ref 1), some (.int a1), some (.int a2), none, none, none] [] u := by
  unfold w_X11_drownedNow at h
  refine gg_aload_n hG dX11_drownedNow_0 rfl rfl ?_
  refine gg_xv (As := []) (st := []) hG dX11_drownedNow_1 ml_RX11_104 Y_X11_motorNow YV_X11_motorNow (by decide) ⟨_, rfl, rfl⟩ (mt_X11_motorNow h) rfl (by decide) (Nat.le_of_ble_eq_true rfl) rfl (gg_ki (fun v9 u8 h => ?_))
  refine gg_istore_n (L1 := [some (.ref 1), some (.int a1), some (.int a2), some (.int v9), none, none]) hG dX11_drownedNow_4 rfl (by decide) rfl ?_
  refine gg_aload_n hG dX11_drownedNow_5 rfl rfl ?_
  refine gg_iconst (v := 1) hG dX11_drownedNow_6 (by decide) ?_
  refine gg_iload_n hG dX11_drownedNow_7 rfl rfl ?_
  refine gg_xv (As := [.int 1, .int a1]) (st := []) hG dX11_drownedNow_8 ml_RX11_139 Y_X11_begins YV_X11_begins (by decide) ⟨_, rfl, rfl⟩ (mt_X11_begins h) rfl (by decide) (Nat.le_of_ble_eq_true rfl) rfl (gg_kv (fun u10 h => ?_))
  refine gg_iconst (v := 1) hG dX11_drownedNow_11 (by decide) ?_
  refine gg_istore (L1 := [some (.ref 1), some (.int a1), some (.int a2), some (.int v9), some (.int 1), none]) hG dX11_drownedNow_12 (by decide) rfl ?_
  refine gg_mk hG [true, true, true, false, true, false] rfl ?_
  exact m_X11_drownedNow_c14 hG h
theorem mt_X11_drownedNow {a1 : Int32} {a2 : Int32}  {u : gg_M} {Q : Int32 → gg_M → Prop} (h : w_X11_drownedNow a1 a2 u Q) : gg_Mt 4 yX11_drownedNow cX11_drownedNow 6 (some .int) [.ref 1, .int a1, .int a2] u (gg_eI Q) :=
  gg_intro (own := RX11) (by decide +kernel) rfl rfl (Nat.le_of_ble_eq_true rfl) (fun G hG => m_X11_drownedNow hG  h)
/-! X11_drowned -/
def w_X11_drowned_c27 (z0 : Int32) (u : gg_M)  (Q : Int32 → gg_M → Prop) : Prop :=
  Q z0 u
set_option maxRecDepth 10000 in
theorem m_X11_drowned_c27 {z0 : Int32} {u : gg_M}  {G : gg_T} {Q : Int32 → gg_M → Prop} (hG : gg_Cl none cX11_drowned 3 RX11 (some .int) 5 (gg_eI Q) G)  (h : w_X11_drowned_c27 z0 u  Q)   : G 27 [none, none, none] [.int z0] u := by
  unfold w_X11_drowned_c27 at h
  exact gg_iret hG dX11_drowned_27 rfl rfl ⟨_, rfl, h⟩
def w_X11_drowned_c25  (u : gg_M)  (Q : Int32 → gg_M → Prop) : Prop :=
  w_X11_drowned_c27 (-2) u Q
set_option maxRecDepth 10000 in
theorem m_X11_drowned_c25  {u : gg_M}  {G : gg_T} {Q : Int32 → gg_M → Prop} (hG : gg_Cl none cX11_drowned 3 RX11 (some .int) 5 (gg_eI Q) G)  (h : w_X11_drowned_c25  u  Q)   : G 25 [none, none, none] [] u := by
  unfold w_X11_drowned_c25 at h
  refine gg_bipush (v := (-2)) hG dX11_drowned_25 (by decide) ?_
  exact m_X11_drowned_c27 hG h
def w_X11_drowned (a1 : Int32) (a2 : Int32) (u : gg_M)  (Q : Int32 → gg_M → Prop) : Prop :=
  w_X11_isSet a1 u (fun v2 u1 =>
  (v2 = 0 →
   w_X11_drowned_c25 u1 Q) ∧
  (¬ v2 = 0 →
   w_X11_in a2 0 3 u1 (fun v5 u4 =>
   (v5 = 0 →
    w_X11_drowned_c25 u4 Q) ∧
   (¬ v5 = 0 →
    w_X11_drownedNow a1 a2 u4 (fun v8 u7 =>
    w_X11_drowned_c27 v8 u7 Q)))))
set_option maxRecDepth 10000 in
theorem m_X11_drowned {a1 : Int32} {a2 : Int32} {u : gg_M}  {G : gg_T} {Q : Int32 → gg_M → Prop} (hG : gg_Cl none cX11_drowned 3 RX11 (some .int) 5 (gg_eI Q) G)  (h : w_X11_drowned a1 a2 u  Q)   : G 0 [some (.ref 1), some (.int a1), some (.int a2)] [] u := by
  unfold w_X11_drowned at h
  refine gg_iload_n hG dX11_drowned_0 rfl rfl ?_
  refine gg_xs (As := [.int a1]) (st := []) hG dX11_drowned_1 ml_RX11_157 Y_X11_isSet YS_X11_isSet (mt_X11_isSet h) rfl (by decide) (Nat.le_of_ble_eq_true rfl) rfl (gg_ki (fun v2 u1 h => ?_))
  refine gg_if_eq (tgt := 25) hG dX11_drowned_4 (by decide) (fun c3 => ?_) (fun c3 => ?_)
  · replace h := h.1 c3
    refine gg_mk hG [false, false, false] rfl ?_
    exact m_X11_drowned_c25 hG h
  · replace h := h.2 c3
    refine gg_iload_n hG dX11_drowned_7 rfl rfl ?_
    refine gg_iconst (v := 0) hG dX11_drowned_8 (by decide) ?_
    refine gg_iconst (v := 3) hG dX11_drowned_9 (by decide) ?_
    refine gg_xs (As := [.int a2, .int 0, .int 3]) (st := []) hG dX11_drowned_10 ml_RX11_68 Y_X11_in YS_X11_in (mt_X11_in h) rfl (by decide) (Nat.le_of_ble_eq_true rfl) rfl (gg_ki (fun v5 u4 h => ?_))
    refine gg_if_eq (tgt := 25) hG dX11_drowned_13 (by decide) (fun c6 => ?_) (fun c6 => ?_)
    · replace h := h.1 c6
      refine gg_mk hG [false, false, false] rfl ?_
      exact m_X11_drowned_c25 hG h
    · replace h := h.2 c6
      refine gg_aload_n hG dX11_drowned_16 rfl rfl ?_
      refine gg_iload_n hG dX11_drowned_17 rfl rfl ?_
      refine gg_iload_n hG dX11_drowned_18 rfl rfl ?_
      refine gg_xv (As := [.int a1, .int a2]) (st := []) hG dX11_drowned_19 ml_RX11_223 Y_X11_drownedNow YV_X11_drownedNow (by decide) ⟨_, rfl, rfl⟩ (mt_X11_drownedNow h) rfl (by decide) (Nat.le_of_ble_eq_true rfl) rfl (gg_ki (fun v8 u7 h => ?_))
      refine gg_goto (tgt := 27) hG dX11_drowned_22 (by decide) ?_
      refine gg_mk hG [false, false, false] rfl ?_
      exact m_X11_drowned_c27 hG h
theorem mt_X11_drowned {a1 : Int32} {a2 : Int32}  {u : gg_M} {Q : Int32 → gg_M → Prop} (h : w_X11_drowned a1 a2 u Q) : gg_Mt 5 yX11_drowned cX11_drowned 3 (some .int) [.ref 1, .int a1, .int a2] u (gg_eI Q) :=
  gg_intro (own := RX11) (by decide +kernel) rfl rfl (Nat.le_of_ble_eq_true rfl) (fun G hG => m_X11_drowned hG  h)
/-! X11_morning -/
def w_X11_morning_c30  (u : gg_M)  (Q : Int32 → gg_M → Prop) : Prop :=
  Q (-2) u
set_option maxRecDepth 10000 in
theorem m_X11_morning_c30  {u : gg_M}  {G : gg_T} {Q : Int32 → gg_M → Prop} (hG : gg_Cl none cX11_morning 4 RX11 (some .int) 2 (gg_eI Q) G)  (h : w_X11_morning_c30  u  Q)   : G 30 [none, none, none, none] [] u := by
  unfold w_X11_morning_c30 at h
  refine gg_bipush (v := (-2)) hG dX11_morning_30 (by decide) ?_
  exact gg_iret hG dX11_morning_32 rfl rfl ⟨_, rfl, h⟩
def w_X11_morning (a1 : Int32) (a2 : Int32) (a3 : Int32) (u : gg_M)  (Q : Int32 → gg_M → Prop) : Prop :=
  w_X11_in a1 0 40 u (fun v2 u1 =>
  (v2 = 0 →
   w_X11_morning_c30 u1 Q) ∧
  (¬ v2 = 0 →
   w_X11_in a2 0 9 u1 (fun v5 u4 =>
   (v5 = 0 →
    w_X11_morning_c30 u4 Q) ∧
   (¬ v5 = 0 →
    w_X11_in a3 0 30 u4 (fun v8 u7 =>
    (¬ v8 = 0 →
     (¬ (u7.1 1 15) = 16 →
      vp_in (u7.1 1 15) 16 ∧
      ∀ u12 : gg_M, u12 = gg_wI u7 57 ((u7.1 1 15).toNatClampNeg) a1 →
      vp_in (u12.1 1 15) 16 ∧
      ∀ u14 : gg_M, u14 = gg_wI u12 58 ((u12.1 1 15).toNatClampNeg) a2 →
      vp_in (u14.1 1 15) 16 ∧
      ∀ u16 : gg_M, u16 = gg_wI u14 59 ((u14.1 1 15).toNatClampNeg) a3 →
      ∀ u17 : gg_M, u17 = gg_wI u16 1 15 ((u16.1 1 15) + 1) →
      Q (u17.1 1 15) u17) ∧
     ((u7.1 1 15) = 16 →
      Q (-4) u7)) ∧
    (v8 = 0 →
     w_X11_morning_c30 u7 Q))))))
set_option maxRecDepth 10000 in
theorem m_X11_morning {a1 : Int32} {a2 : Int32} {a3 : Int32} {u : gg_M}  {G : gg_T} {Q : Int32 → gg_M → Prop} (hG : gg_Cl none cX11_morning 4 RX11 (some .int) 2 (gg_eI Q) G)  (h : w_X11_morning a1 a2 a3 u  Q)   : G 0 [some (.ref 1), some (.int a1), some (.int a2), some (.int a3)] [] u := by
  unfold w_X11_morning at h
  refine gg_iload_n hG dX11_morning_0 rfl rfl ?_
  refine gg_iconst (v := 0) hG dX11_morning_1 (by decide) ?_
  refine gg_bipush (v := 40) hG dX11_morning_2 (by decide) ?_
  refine gg_xs (As := [.int a1, .int 0, .int 40]) (st := []) hG dX11_morning_4 ml_RX11_68 Y_X11_in YS_X11_in (mt_X11_in h) rfl (by decide) (Nat.le_of_ble_eq_true rfl) rfl (gg_ki (fun v2 u1 h => ?_))
  refine gg_if_eq (tgt := 30) hG dX11_morning_7 (by decide) (fun c3 => ?_) (fun c3 => ?_)
  · replace h := h.1 c3
    refine gg_mk hG [false, false, false, false] rfl ?_
    exact m_X11_morning_c30 hG h
  · replace h := h.2 c3
    refine gg_iload_n hG dX11_morning_10 rfl rfl ?_
    refine gg_iconst (v := 0) hG dX11_morning_11 (by decide) ?_
    refine gg_bipush (v := 9) hG dX11_morning_12 (by decide) ?_
    refine gg_xs (As := [.int a2, .int 0, .int 9]) (st := []) hG dX11_morning_14 ml_RX11_68 Y_X11_in YS_X11_in (mt_X11_in h) rfl (by decide) (Nat.le_of_ble_eq_true rfl) rfl (gg_ki (fun v5 u4 h => ?_))
    refine gg_if_eq (tgt := 30) hG dX11_morning_17 (by decide) (fun c6 => ?_) (fun c6 => ?_)
    · replace h := h.1 c6
      refine gg_mk hG [false, false, false, false] rfl ?_
      exact m_X11_morning_c30 hG h
    · replace h := h.2 c6
      refine gg_iload_n hG dX11_morning_20 rfl rfl ?_
      refine gg_iconst (v := 0) hG dX11_morning_21 (by decide) ?_
      refine gg_bipush (v := 30) hG dX11_morning_22 (by decide) ?_
      refine gg_xs (As := [.int a3, .int 0, .int 30]) (st := []) hG dX11_morning_24 ml_RX11_68 Y_X11_in YS_X11_in (mt_X11_in h) rfl (by decide) (Nat.le_of_ble_eq_true rfl) rfl (gg_ki (fun v8 u7 h => ?_))
      refine gg_if_ne (tgt := 33) hG dX11_morning_27 (by decide) (fun c9 => ?_) (fun c9 => ?_)
      · replace h := h.1 c9
        refine gg_aload_n hG dX11_morning_33 rfl rfl ?_
        refine gg_get (v := .int (u7.1 1 15)) hG dX11_morning_34 (by decide) rfl fl_RX11_226 rfl ?_
        refine gg_bipush (v := 16) hG dX11_morning_37 (by decide) ?_
        refine gg_ic_ne (tgt := 45) hG dX11_morning_39 (by decide) (fun c10 => ?_) (fun c10 => ?_)
        · replace h := h.1 c10
          refine gg_aload_n hG dX11_morning_45 rfl rfl ?_
          refine gg_get (v := .ref 57) hG dX11_morning_46 (by decide) rfl fl_RX11_41 rfl ?_
          refine gg_aload_n hG dX11_morning_49 rfl rfl ?_
          refine gg_get (v := .int (u7.1 1 15)) hG dX11_morning_50 (by decide) rfl fl_RX11_226 rfl ?_
          refine gg_iload_n hG dX11_morning_53 rfl rfl ?_
          obtain ⟨h11, h⟩ := h
          refine gg_iast (j := (u7.1 1 15).toNatClampNeg) hG dX11_morning_54 (by decide) rfl h11 rfl ?_
          refine gg_nu (fun u12 eu12 => ?_)
          replace h := h u12 eu12
          refine gg_aload_n hG dX11_morning_55 rfl rfl ?_
          refine gg_get (v := .ref 58) hG dX11_morning_56 (by decide) rfl fl_RX11_44 rfl ?_
          refine gg_aload_n hG dX11_morning_59 rfl rfl ?_
          refine gg_get (v := .int (u12.1 1 15)) hG dX11_morning_60 (by decide) rfl fl_RX11_226 rfl ?_
          refine gg_iload_n hG dX11_morning_63 rfl rfl ?_
          obtain ⟨h13, h⟩ := h
          refine gg_iast (j := (u12.1 1 15).toNatClampNeg) hG dX11_morning_64 (by decide) rfl h13 rfl ?_
          refine gg_nu (fun u14 eu14 => ?_)
          replace h := h u14 eu14
          refine gg_aload_n hG dX11_morning_65 rfl rfl ?_
          refine gg_get (v := .ref 59) hG dX11_morning_66 (by decide) rfl fl_RX11_47 rfl ?_
          refine gg_aload_n hG dX11_morning_69 rfl rfl ?_
          refine gg_get (v := .int (u14.1 1 15)) hG dX11_morning_70 (by decide) rfl fl_RX11_226 rfl ?_
          refine gg_iload_n hG dX11_morning_73 rfl rfl ?_
          obtain ⟨h15, h⟩ := h
          refine gg_iast (j := (u14.1 1 15).toNatClampNeg) hG dX11_morning_74 (by decide) rfl h15 rfl ?_
          refine gg_nu (fun u16 eu16 => ?_)
          replace h := h u16 eu16
          refine gg_aload_n hG dX11_morning_75 rfl rfl ?_
          refine gg_dup hG dX11_morning_76 rfl ?_
          refine gg_get (v := .int (u16.1 1 15)) hG dX11_morning_77 (by decide) rfl fl_RX11_226 rfl ?_
          refine gg_iconst (v := 1) hG dX11_morning_80 (by decide) ?_
          refine gg_iadd hG dX11_morning_81 ?_
          refine gg_putI hG dX11_morning_82 (by decide) rfl fp_RX11_226 rfl rfl rfl ?_
          refine gg_nu (fun u17 eu17 => ?_)
          replace h := h u17 eu17
          refine gg_aload_n hG dX11_morning_85 rfl rfl ?_
          refine gg_get (v := .int (u17.1 1 15)) hG dX11_morning_86 (by decide) rfl fl_RX11_226 rfl ?_
          exact gg_iret hG dX11_morning_89 rfl rfl ⟨_, rfl, h⟩
        · replace h := h.2 c10
          refine gg_bipush (v := (-4)) hG dX11_morning_42 (by decide) ?_
          exact gg_iret hG dX11_morning_44 rfl rfl ⟨_, rfl, h⟩
      · replace h := h.2 c9
        refine gg_mk hG [false, false, false, false] rfl ?_
        exact m_X11_morning_c30 hG h
theorem mt_X11_morning {a1 : Int32} {a2 : Int32} {a3 : Int32}  {u : gg_M} {Q : Int32 → gg_M → Prop} (h : w_X11_morning a1 a2 a3 u Q) : gg_Mt 2 yX11_morning cX11_morning 4 (some .int) [.ref 1, .int a1, .int a2, .int a3] u (gg_eI Q) :=
  gg_intro (own := RX11) (by decide +kernel) rfl rfl (Nat.le_of_ble_eq_true rfl) (fun G hG => m_X11_morning hG  h)
/-! X11_isLaw -/
def w_X11_isLaw_c34 (z0 : Int32) (u : gg_M)  (Q : Int32 → gg_M → Prop) : Prop :=
  (z0 = 0 ∨ z0 = 1) ∧
  Q z0 u
set_option maxRecDepth 10000 in
theorem m_X11_isLaw_c34 {z0 : Int32} {u : gg_M}  {G : gg_T} {Q : Int32 → gg_M → Prop} (hG : gg_Cl none cX11_isLaw 3 RX11 (some .boolean) 2 (gg_eI Q) G)  (h : w_X11_isLaw_c34 z0 u  Q)   : G 34 [none, none, none] [.int z0] u := by
  unfold w_X11_isLaw_c34 at h
  obtain ⟨h1, h⟩ := h
  exact gg_iret hG dX11_isLaw_34 rfl (gg_nb h1).1 ⟨_, rfl, h⟩
def w_X11_isLaw_c33  (u : gg_M)  (Q : Int32 → gg_M → Prop) : Prop :=
  w_X11_isLaw_c34 0 u Q
set_option maxRecDepth 10000 in
theorem m_X11_isLaw_c33  {u : gg_M}  {G : gg_T} {Q : Int32 → gg_M → Prop} (hG : gg_Cl none cX11_isLaw 3 RX11 (some .boolean) 2 (gg_eI Q) G)  (h : w_X11_isLaw_c33  u  Q)   : G 33 [none, none, none] [] u := by
  unfold w_X11_isLaw_c33 at h
  refine gg_iconst (v := 0) hG dX11_isLaw_33 (by decide) ?_
  exact m_X11_isLaw_c34 hG h
def w_X11_isLaw (a0 : Int32) (a1 : Int32) (a2 : Int32) (u : gg_M)  (Q : Int32 → gg_M → Prop) : Prop :=
  w_X11_in a0 0 9 u (fun v3 u2 =>
  (v3 = 0 →
   w_X11_isLaw_c33 u2 Q) ∧
  (¬ v3 = 0 →
   w_X11_in a1 0 9 u2 (fun v6 u5 =>
   (v6 = 0 →
    w_X11_isLaw_c33 u5 Q) ∧
   (¬ v6 = 0 →
    w_X11_in a2 0 3 u5 (fun v9 u8 =>
    (v9 = 0 →
     w_X11_isLaw_c33 u8 Q) ∧
    (¬ v9 = 0 →
     w_X11_isLaw_c34 1 u8 Q))))))
set_option maxRecDepth 10000 in
theorem m_X11_isLaw {a0 : Int32} {a1 : Int32} {a2 : Int32} {u : gg_M}  {G : gg_T} {Q : Int32 → gg_M → Prop} (hG : gg_Cl none cX11_isLaw 3 RX11 (some .boolean) 2 (gg_eI Q) G)  (h : w_X11_isLaw a0 a1 a2 u  Q)   : G 0 [some (.int a0), some (.int a1), some (.int a2)] [] u := by
  unfold w_X11_isLaw at h
  refine gg_iload_n hG dX11_isLaw_0 rfl rfl ?_
  refine gg_iconst (v := 0) hG dX11_isLaw_1 (by decide) ?_
  refine gg_bipush (v := 9) hG dX11_isLaw_2 (by decide) ?_
  refine gg_xs (As := [.int a0, .int 0, .int 9]) (st := []) hG dX11_isLaw_4 ml_RX11_68 Y_X11_in YS_X11_in (mt_X11_in h) rfl (by decide) (Nat.le_of_ble_eq_true rfl) rfl (gg_ki (fun v3 u2 h => ?_))
  refine gg_if_eq (tgt := 33) hG dX11_isLaw_7 (by decide) (fun c4 => ?_) (fun c4 => ?_)
  · replace h := h.1 c4
    refine gg_mk hG [false, false, false] rfl ?_
    exact m_X11_isLaw_c33 hG h
  · replace h := h.2 c4
    refine gg_iload_n hG dX11_isLaw_10 rfl rfl ?_
    refine gg_iconst (v := 0) hG dX11_isLaw_11 (by decide) ?_
    refine gg_bipush (v := 9) hG dX11_isLaw_12 (by decide) ?_
    refine gg_xs (As := [.int a1, .int 0, .int 9]) (st := []) hG dX11_isLaw_14 ml_RX11_68 Y_X11_in YS_X11_in (mt_X11_in h) rfl (by decide) (Nat.le_of_ble_eq_true rfl) rfl (gg_ki (fun v6 u5 h => ?_))
    refine gg_if_eq (tgt := 33) hG dX11_isLaw_17 (by decide) (fun c7 => ?_) (fun c7 => ?_)
    · replace h := h.1 c7
      refine gg_mk hG [false, false, false] rfl ?_
      exact m_X11_isLaw_c33 hG h
    · replace h := h.2 c7
      refine gg_iload_n hG dX11_isLaw_20 rfl rfl ?_
      refine gg_iconst (v := 0) hG dX11_isLaw_21 (by decide) ?_
      refine gg_iconst (v := 3) hG dX11_isLaw_22 (by decide) ?_
      refine gg_xs (As := [.int a2, .int 0, .int 3]) (st := []) hG dX11_isLaw_23 ml_RX11_68 Y_X11_in YS_X11_in (mt_X11_in h) rfl (by decide) (Nat.le_of_ble_eq_true rfl) rfl (gg_ki (fun v9 u8 h => ?_))
      refine gg_if_eq (tgt := 33) hG dX11_isLaw_26 (by decide) (fun c10 => ?_) (fun c10 => ?_)
      · replace h := h.1 c10
        refine gg_mk hG [false, false, false] rfl ?_
        exact m_X11_isLaw_c33 hG h
      · replace h := h.2 c10
        refine gg_iconst (v := 1) hG dX11_isLaw_29 (by decide) ?_
        refine gg_goto (tgt := 34) hG dX11_isLaw_30 (by decide) ?_
        refine gg_mk hG [false, false, false] rfl ?_
        exact m_X11_isLaw_c34 hG h
theorem mt_X11_isLaw {a0 : Int32} {a1 : Int32} {a2 : Int32}  {u : gg_M} {Q : Int32 → gg_M → Prop} (h : w_X11_isLaw a0 a1 a2 u Q) : gg_Mt 2 yX11_isLaw cX11_isLaw 3 (some .boolean) [.int a0, .int a1, .int a2] u (gg_eI Q) :=
  gg_intro (own := RX11) (by decide +kernel) rfl rfl (Nat.le_of_ble_eq_true rfl) (fun G hG => m_X11_isLaw hG  h)
/-! X11_saysOf -/
def w_X11_saysOf (a0 : Int32) (a1 : Int32) (a2 : Int32) (a3 : Int32) (a4 : Int32) (u : gg_M)  (Q : Int32 → gg_M → Prop) : Prop :=
  Q ((a0 + ((a1 * a3) / 10)) + (a2 * a4)) u
set_option maxRecDepth 10000 in
theorem m_X11_saysOf {a0 : Int32} {a1 : Int32} {a2 : Int32} {a3 : Int32} {a4 : Int32} {u : gg_M}  {G : gg_T} {Q : Int32 → gg_M → Prop} (hG : gg_Cl none cX11_saysOf 5 RX11 (some .int) 1 (gg_eI Q) G)  (h : w_X11_saysOf a0 a1 a2 a3 a4 u  Q)   : G 0 [some (.int a0), some (.int a1), some (.int a2), some (.int a3), some (.int a4)] [] u := by
  unfold w_X11_saysOf at h
  refine gg_iload_n hG dX11_saysOf_0 rfl rfl ?_
  refine gg_iload_n hG dX11_saysOf_1 rfl rfl ?_
  refine gg_iload_n hG dX11_saysOf_2 rfl rfl ?_
  refine gg_imul hG dX11_saysOf_3 ?_
  refine gg_bipush (v := 10) hG dX11_saysOf_4 (by decide) ?_
  refine gg_idiv hG dX11_saysOf_6 (by decide) ?_
  refine gg_iadd hG dX11_saysOf_7 ?_
  refine gg_iload_n hG dX11_saysOf_8 rfl rfl ?_
  refine gg_iload hG dX11_saysOf_9 rfl ?_
  refine gg_imul hG dX11_saysOf_11 ?_
  refine gg_iadd hG dX11_saysOf_12 ?_
  exact gg_iret hG dX11_saysOf_13 rfl rfl ⟨_, rfl, h⟩
theorem mt_X11_saysOf {a0 : Int32} {a1 : Int32} {a2 : Int32} {a3 : Int32} {a4 : Int32}  {u : gg_M} {Q : Int32 → gg_M → Prop} (h : w_X11_saysOf a0 a1 a2 a3 a4 u Q) : gg_Mt 1 yX11_saysOf cX11_saysOf 5 (some .int) [.int a0, .int a1, .int a2, .int a3, .int a4] u (gg_eI Q) :=
  gg_intro (own := RX11) (by decide +kernel) rfl rfl (Nat.le_of_ble_eq_true rfl) (fun G hG => m_X11_saysOf hG  h)
/-! X11_says -/
def w_X11_says_c46 (z0 : Int32) (u : gg_M)  (Q : Int32 → gg_M → Prop) : Prop :=
  Q z0 u
set_option maxRecDepth 10000 in
theorem m_X11_says_c46 {z0 : Int32} {u : gg_M}  {G : gg_T} {Q : Int32 → gg_M → Prop} (hG : gg_Cl none cX11_says 6 RX11 (some .int) 3 (gg_eI Q) G)  (h : w_X11_says_c46 z0 u  Q)   : G 46 [none, none, none, none, none, none] [.int z0] u := by
  unfold w_X11_says_c46 at h
  exact gg_iret hG dX11_says_46 rfl rfl ⟨_, rfl, h⟩
def w_X11_says_c44  (u : gg_M)  (Q : Int32 → gg_M → Prop) : Prop :=
  w_X11_says_c46 (-2) u Q
set_option maxRecDepth 10000 in
theorem m_X11_says_c44  {u : gg_M}  {G : gg_T} {Q : Int32 → gg_M → Prop} (hG : gg_Cl none cX11_says 6 RX11 (some .int) 3 (gg_eI Q) G)  (h : w_X11_says_c44  u  Q)   : G 44 [none, none, none, none, none, none] [] u := by
  unfold w_X11_says_c44 at h
  refine gg_bipush (v := (-2)) hG dX11_says_44 (by decide) ?_
  exact m_X11_says_c46 hG h
def w_X11_says (a1 : Int32) (a2 : Int32) (a3 : Int32) (a4 : Int32) (a5 : Int32) (u : gg_M)  (Q : Int32 → gg_M → Prop) : Prop :=
  w_X11_isLaw a1 a2 a3 u (fun v2 u1 =>
  (v2 = 0 →
   w_X11_says_c44 u1 Q) ∧
  (¬ v2 = 0 →
   w_X11_in a4 0 40 u1 (fun v5 u4 =>
   (v5 = 0 →
    w_X11_says_c44 u4 Q) ∧
   (¬ v5 = 0 →
    w_X11_in a5 0 9 u4 (fun v8 u7 =>
    (v8 = 0 →
     w_X11_says_c44 u7 Q) ∧
    (¬ v8 = 0 →
     w_X11_saysOf a1 a2 a3 a4 a5 u7 (fun v11 u10 =>
     w_X11_says_c46 v11 u10 Q)))))))
set_option maxRecDepth 10000 in
theorem m_X11_says {a1 : Int32} {a2 : Int32} {a3 : Int32} {a4 : Int32} {a5 : Int32} {u : gg_M}  {G : gg_T} {Q : Int32 → gg_M → Prop} (hG : gg_Cl none cX11_says 6 RX11 (some .int) 3 (gg_eI Q) G)  (h : w_X11_says a1 a2 a3 a4 a5 u  Q)   : G 0 [some (.ref 1), some (.int a1), some (.int a2), some (.int a3), some (.int a4), some (.int a5)] [] u := by
  unfold w_X11_says at h
  refine gg_iload_n hG dX11_says_0 rfl rfl ?_
  refine gg_iload_n hG dX11_says_1 rfl rfl ?_
  refine gg_iload_n hG dX11_says_2 rfl rfl ?_
  refine gg_xs (As := [.int a1, .int a2, .int a3]) (st := []) hG dX11_says_3 ml_RX11_229 Y_X11_isLaw YS_X11_isLaw (mt_X11_isLaw h) rfl (by decide) (Nat.le_of_ble_eq_true rfl) rfl (gg_ki (fun v2 u1 h => ?_))
  refine gg_if_eq (tgt := 44) hG dX11_says_6 (by decide) (fun c3 => ?_) (fun c3 => ?_)
  · replace h := h.1 c3
    refine gg_mk hG [false, false, false, false, false, false] rfl ?_
    exact m_X11_says_c44 hG h
  · replace h := h.2 c3
    refine gg_iload hG dX11_says_9 rfl ?_
    refine gg_iconst (v := 0) hG dX11_says_11 (by decide) ?_
    refine gg_bipush (v := 40) hG dX11_says_12 (by decide) ?_
    refine gg_xs (As := [.int a4, .int 0, .int 40]) (st := []) hG dX11_says_14 ml_RX11_68 Y_X11_in YS_X11_in (mt_X11_in h) rfl (by decide) (Nat.le_of_ble_eq_true rfl) rfl (gg_ki (fun v5 u4 h => ?_))
    refine gg_if_eq (tgt := 44) hG dX11_says_17 (by decide) (fun c6 => ?_) (fun c6 => ?_)
    · replace h := h.1 c6
      refine gg_mk hG [false, false, false, false, false, false] rfl ?_
      exact m_X11_says_c44 hG h
    · replace h := h.2 c6
      refine gg_iload hG dX11_says_20 rfl ?_
      refine gg_iconst (v := 0) hG dX11_says_22 (by decide) ?_
      refine gg_bipush (v := 9) hG dX11_says_23 (by decide) ?_
      refine gg_xs (As := [.int a5, .int 0, .int 9]) (st := []) hG dX11_says_25 ml_RX11_68 Y_X11_in YS_X11_in (mt_X11_in h) rfl (by decide) (Nat.le_of_ble_eq_true rfl) rfl (gg_ki (fun v8 u7 h => ?_))
      refine gg_if_eq (tgt := 44) hG dX11_says_28 (by decide) (fun c9 => ?_) (fun c9 => ?_)
      · replace h := h.1 c9
        refine gg_mk hG [false, false, false, false, false, false] rfl ?_
        exact m_X11_says_c44 hG h
      · replace h := h.2 c9
        refine gg_iload_n hG dX11_says_31 rfl rfl ?_
        refine gg_iload_n hG dX11_says_32 rfl rfl ?_
        refine gg_iload_n hG dX11_says_33 rfl rfl ?_
        refine gg_iload hG dX11_says_34 rfl ?_
        refine gg_iload hG dX11_says_36 rfl ?_
        refine gg_xs (As := [.int a1, .int a2, .int a3, .int a4, .int a5]) (st := []) hG dX11_says_38 ml_RX11_232 Y_X11_saysOf YS_X11_saysOf (mt_X11_saysOf h) rfl (by decide) (Nat.le_of_ble_eq_true rfl) rfl (gg_ki (fun v11 u10 h => ?_))
        refine gg_goto (tgt := 46) hG dX11_says_41 (by decide) ?_
        refine gg_mk hG [false, false, false, false, false, false] rfl ?_
        exact m_X11_says_c46 hG h
theorem mt_X11_says {a1 : Int32} {a2 : Int32} {a3 : Int32} {a4 : Int32} {a5 : Int32}  {u : gg_M} {Q : Int32 → gg_M → Prop} (h : w_X11_says a1 a2 a3 a4 a5 u Q) : gg_Mt 3 yX11_says cX11_says 6 (some .int) [.ref 1, .int a1, .int a2, .int a3, .int a4, .int a5] u (gg_eI Q) :=
  gg_intro (own := RX11) (by decide +kernel) rfl rfl (Nat.le_of_ble_eq_true rfl) (fun G hG => m_X11_says hG  h)
/-! X11_missesOf -/
def b_X11_missesOf_c6 (a1 : Int32) (a2 : Int32) (a3 : Int32) (a4 : Int32) (a5 : Int32) (u : gg_M)  (k6 : Int32 × Int32 × gg_M → Prop) (Q : Int32 → gg_M → Prop) : Prop :=
  ((u.1 1 15) ≤ a5 →
   Q a4 u) ∧
  (¬ (u.1 1 15) ≤ a5 →
   vp_in a5 16 ∧
   vp_in a5 16 ∧
   w_X11_saysOf a1 a2 a3 (u.1 57 a5.toNatClampNeg) (u.1 58 a5.toNatClampNeg) u (fun v5 u4 =>
   vp_in a5 16 ∧
   w_X11_amount (v5 - (u4.1 59 a5.toNatClampNeg)) u4 (fun v8 u7 =>
   ∀ v9 : Int32, v9 = (a4 + v8) →
   k6 (v9, (a5 + 1), u7))))
set_option maxRecDepth 10000 in
theorem mb_X11_missesOf_c6 {a1 : Int32} {a2 : Int32} {a3 : Int32} {a4 : Int32} {a5 : Int32} {u : gg_M}  {k6 : Int32 × Int32 × gg_M → Prop} {G : gg_T} {Q : Int32 → gg_M → Prop} (hG : gg_Cl none cX11_missesOf 6 RX11 (some .int) 2 (gg_eI Q) G)  (h : b_X11_missesOf_c6 a1 a2 a3 a4 a5 u k6 Q)   (hk6 : ∀ s : Int32 × Int32 × gg_M, k6 s → G 6 [some (.ref 1), some (.int a1), some (.int a2), some (.int a3), some (.int s.1), some (.int s.2.1)] [] s.2.2) : G 6 [some (.ref 1), some (.int a1), some (.int a2), some (.int a3), some (.int a4), some (.int a5)] [] u := by
  unfold b_X11_missesOf_c6 at h
  refine gg_iload hG dX11_missesOf_6 rfl ?_
  refine gg_aload_n hG dX11_missesOf_8 rfl rfl ?_
  refine gg_get (v := .int (u.1 1 15)) hG dX11_missesOf_9 (by decide) rfl fl_RX11_226 rfl ?_
  refine gg_ic_ge (tgt := 57) hG dX11_missesOf_12 (by decide) (fun c1 => ?_) (fun c1 => ?_)
  · replace h := h.1 c1
    refine gg_iload hG dX11_missesOf_57 rfl ?_
    exact gg_iret hG dX11_missesOf_59 rfl rfl ⟨_, rfl, h⟩
  · replace h := h.2 c1
    refine gg_iload hG dX11_missesOf_15 rfl ?_
    refine gg_iload_n hG dX11_missesOf_17 rfl rfl ?_
    refine gg_iload_n hG dX11_missesOf_18 rfl rfl ?_
    refine gg_iload_n hG dX11_missesOf_19 rfl rfl ?_
    refine gg_aload_n hG dX11_missesOf_20 rfl rfl ?_
    refine gg_get (v := .ref 57) hG dX11_missesOf_21 (by decide) rfl fl_RX11_41 rfl ?_
    refine gg_iload hG dX11_missesOf_24 rfl ?_
    obtain ⟨h2, h⟩ := h
    refine gg_iald (j := a5.toNatClampNeg) hG dX11_missesOf_26 (by decide) rfl h2 rfl ?_
    refine gg_aload_n hG dX11_missesOf_27 rfl rfl ?_
    refine gg_get (v := .ref 58) hG dX11_missesOf_28 (by decide) rfl fl_RX11_44 rfl ?_
    refine gg_iload hG dX11_missesOf_31 rfl ?_
    obtain ⟨h3, h⟩ := h
    refine gg_iald (j := a5.toNatClampNeg) hG dX11_missesOf_33 (by decide) rfl h3 rfl ?_
    refine gg_xs (As := [.int a1, .int a2, .int a3, .int (u.1 57 a5.toNatClampNeg), .int (u.1 58 a5.toNatClampNeg)]) (st := [.int a4]) hG dX11_missesOf_34 ml_RX11_232 Y_X11_saysOf YS_X11_saysOf (mt_X11_saysOf h) rfl (by decide) (Nat.le_of_ble_eq_true rfl) rfl (gg_ki (fun v5 u4 h => ?_))
    refine gg_aload_n hG dX11_missesOf_37 rfl rfl ?_
    refine gg_get (v := .ref 59) hG dX11_missesOf_38 (by decide) rfl fl_RX11_47 rfl ?_
    refine gg_iload hG dX11_missesOf_41 rfl ?_
    obtain ⟨h6, h⟩ := h
    refine gg_iald (j := a5.toNatClampNeg) hG dX11_missesOf_43 (by decide) rfl h6 rfl ?_
    refine gg_isub hG dX11_missesOf_44 ?_
    refine gg_xs (As := [.int (v5 - (u4.1 59 a5.toNatClampNeg))]) (st := [.int a4]) hG dX11_missesOf_45 ml_RX11_236 Y_X11_amount YS_X11_amount (mt_X11_amount h) rfl (by decide) (Nat.le_of_ble_eq_true rfl) rfl (gg_ki (fun v8 u7 h => ?_))
    refine gg_iadd hG dX11_missesOf_48 ?_
    refine gg_ni (fun v9 e9 => ?_)
    replace h := h v9 e9
    refine gg_istore (L1 := [some (.ref 1), some (.int a1), some (.int a2), some (.int a3), some (.int v9), some (.int a5)]) hG dX11_missesOf_49 (by decide) rfl ?_
    refine gg_iinc (v := (a5 + 1)) (L1 := [some (.ref 1), some (.int a1), some (.int a2), some (.int a3), some (.int v9), some (.int (a5 + 1))]) hG dX11_missesOf_51 rfl rfl (by decide) rfl ?_
    refine gg_goto (tgt := 6) hG dX11_missesOf_54 (by decide) ?_
    exact hk6 _ h
def w_X11_missesOf_c6 (a1 : Int32) (a2 : Int32) (a3 : Int32) (a4 : Int32) (a5 : Int32) (u : gg_M)  (Q : Int32 → gg_M → Prop) : Prop :=
  gg_loop (fun (s : Int32 × Int32 × gg_M) k6 => b_X11_missesOf_c6 a1 a2 a3 s.1 s.2.1 s.2.2  k6 Q) (a4, a5, u)
set_option maxRecDepth 10000 in
theorem m_X11_missesOf_c6 {a1 : Int32} {a2 : Int32} {a3 : Int32} {a4 : Int32} {a5 : Int32} {u : gg_M}  {G : gg_T} {Q : Int32 → gg_M → Prop} (hG : gg_Cl none cX11_missesOf 6 RX11 (some .int) 2 (gg_eI Q) G)  (h : w_X11_missesOf_c6 a1 a2 a3 a4 a5 u  Q)   : G 6 [some (.ref 1), some (.int a1), some (.int a2), some (.int a3), some (.int a4), some (.int a5)] [] u :=
  gg_loop_use (P := fun s : Int32 × Int32 × gg_M => G 6 [some (.ref 1), some (.int a1), some (.int a2), some (.int a3), some (.int s.1), some (.int s.2.1)] [] s.2.2) h (fun s rc hb hr => mb_X11_missesOf_c6 hG  hb   hr)
def w_X11_missesOf (a1 : Int32) (a2 : Int32) (a3 : Int32) (u : gg_M)  (Q : Int32 → gg_M → Prop) : Prop :=
  w_X11_missesOf_c6 a1 a2 a3 0 0 u Q
set_option maxRecDepth 10000 in
theorem m_X11_missesOf {a1 : Int32} {a2 : Int32} {a3 : Int32} {u : gg_M}  {G : gg_T} {Q : Int32 → gg_M → Prop} (hG : gg_Cl none cX11_missesOf 6 RX11 (some .int) 2 (gg_eI Q) G)  (h : w_X11_missesOf a1 a2 a3 u  Q)   : G 0 [some (.ref 1), some (.int a1), some (.int a2), some (.int a3), none, none] [] u := by
  unfold w_X11_missesOf at h
  refine gg_iconst (v := 0) hG dX11_missesOf_0 (by decide) ?_
  refine gg_istore (L1 := [some (.ref 1), some (.int a1), some (.int a2), some (.int a3), some (.int 0), none]) hG dX11_missesOf_1 (by decide) rfl ?_
  refine gg_iconst (v := 0) hG dX11_missesOf_3 (by decide) ?_
  refine gg_istore (L1 := [some (.ref 1), some (.int a1), some (.int a2), some (.int a3), some (.int 0), some (.int 0)]) hG dX11_missesOf_4 (by decide) rfl ?_
  exact m_X11_missesOf_c6 hG h
theorem mt_X11_missesOf {a1 : Int32} {a2 : Int32} {a3 : Int32}  {u : gg_M} {Q : Int32 → gg_M → Prop} (h : w_X11_missesOf a1 a2 a3 u Q) : gg_Mt 2 yX11_missesOf cX11_missesOf 6 (some .int) [.ref 1, .int a1, .int a2, .int a3] u (gg_eI Q) :=
  gg_intro (own := RX11) (by decide +kernel) rfl rfl (Nat.le_of_ble_eq_true rfl) (fun G hG => m_X11_missesOf hG  h)
/-! X11_misses -/
def w_X11_misses_c21 (z0 : Int32) (u : gg_M)  (Q : Int32 → gg_M → Prop) : Prop :=
  Q z0 u
set_option maxRecDepth 10000 in
theorem m_X11_misses_c21 {z0 : Int32} {u : gg_M}  {G : gg_T} {Q : Int32 → gg_M → Prop} (hG : gg_Cl none cX11_misses 4 RX11 (some .int) 3 (gg_eI Q) G)  (h : w_X11_misses_c21 z0 u  Q)   : G 21 [none, none, none, none] [.int z0] u := by
  unfold w_X11_misses_c21 at h
  exact gg_iret hG dX11_misses_21 rfl rfl ⟨_, rfl, h⟩
def w_X11_misses (a1 : Int32) (a2 : Int32) (a3 : Int32) (u : gg_M)  (Q : Int32 → gg_M → Prop) : Prop :=
  w_X11_isLaw a1 a2 a3 u (fun v2 u1 =>
  (v2 = 0 →
   w_X11_misses_c21 (-2) u1 Q) ∧
  (¬ v2 = 0 →
   w_X11_missesOf a1 a2 a3 u1 (fun v5 u4 =>
   w_X11_misses_c21 v5 u4 Q)))
set_option maxRecDepth 10000 in
theorem m_X11_misses {a1 : Int32} {a2 : Int32} {a3 : Int32} {u : gg_M}  {G : gg_T} {Q : Int32 → gg_M → Prop} (hG : gg_Cl none cX11_misses 4 RX11 (some .int) 3 (gg_eI Q) G)  (h : w_X11_misses a1 a2 a3 u  Q)   : G 0 [some (.ref 1), some (.int a1), some (.int a2), some (.int a3)] [] u := by
  unfold w_X11_misses at h
  refine gg_iload_n hG dX11_misses_0 rfl rfl ?_
  refine gg_iload_n hG dX11_misses_1 rfl rfl ?_
  refine gg_iload_n hG dX11_misses_2 rfl rfl ?_
  refine gg_xs (As := [.int a1, .int a2, .int a3]) (st := []) hG dX11_misses_3 ml_RX11_229 Y_X11_isLaw YS_X11_isLaw (mt_X11_isLaw h) rfl (by decide) (Nat.le_of_ble_eq_true rfl) rfl (gg_ki (fun v2 u1 h => ?_))
  refine gg_if_eq (tgt := 19) hG dX11_misses_6 (by decide) (fun c3 => ?_) (fun c3 => ?_)
  · replace h := h.1 c3
    refine gg_bipush (v := (-2)) hG dX11_misses_19 (by decide) ?_
    refine gg_mk hG [false, false, false, false] rfl ?_
    exact m_X11_misses_c21 hG h
  · replace h := h.2 c3
    refine gg_aload_n hG dX11_misses_9 rfl rfl ?_
    refine gg_iload_n hG dX11_misses_10 rfl rfl ?_
    refine gg_iload_n hG dX11_misses_11 rfl rfl ?_
    refine gg_iload_n hG dX11_misses_12 rfl rfl ?_
    refine gg_xv (As := [.int a1, .int a2, .int a3]) (st := []) hG dX11_misses_13 ml_RX11_239 Y_X11_missesOf YV_X11_missesOf (by decide) ⟨_, rfl, rfl⟩ (mt_X11_missesOf h) rfl (by decide) (Nat.le_of_ble_eq_true rfl) rfl (gg_ki (fun v5 u4 h => ?_))
    refine gg_goto (tgt := 21) hG dX11_misses_16 (by decide) ?_
    refine gg_mk hG [false, false, false, false] rfl ?_
    exact m_X11_misses_c21 hG h
theorem mt_X11_misses {a1 : Int32} {a2 : Int32} {a3 : Int32}  {u : gg_M} {Q : Int32 → gg_M → Prop} (h : w_X11_misses a1 a2 a3 u Q) : gg_Mt 3 yX11_misses cX11_misses 4 (some .int) [.ref 1, .int a1, .int a2, .int a3] u (gg_eI Q) :=
  gg_intro (own := RX11) (by decide +kernel) rfl rfl (Nat.le_of_ble_eq_true rfl) (fun G hG => m_X11_misses hG  h)
/-! X11_fitsNow -/
def w_X11_fitsNow_c122 (z0 : Int32) (u : gg_M)  (Q : Int32 → gg_M → Prop) : Prop :=
  Q z0 u
set_option maxRecDepth 10000 in
theorem m_X11_fitsNow_c122 {z0 : Int32} {u : gg_M}  {G : gg_T} {Q : Int32 → gg_M → Prop} (hG : gg_Cl none cX11_fitsNow 6 RX11 (some .int) 3 (gg_eI Q) G)  (h : w_X11_fitsNow_c122 z0 u  Q)   : G 122 [none, none, none, none, none, none] [.int z0] u := by
  unfold w_X11_fitsNow_c122 at h
  exact gg_iret hG dX11_fitsNow_122 rfl rfl ⟨_, rfl, h⟩
def w_X11_fitsNow_c78 (a1 : Int32) (a2 : Int32) (a4 : Int32) (z0 : Int32) (u : gg_M) (k23 : Int32 × Int32 × Int32 × gg_M → Prop) (Q : Int32 → gg_M → Prop) : Prop :=
  k23 (a2, z0, (a4 + 1), u)
set_option maxRecDepth 10000 in
theorem m_X11_fitsNow_c78 {a1 : Int32} {a2 : Int32} {a4 : Int32} {z0 : Int32} {u : gg_M} {k23 : Int32 × Int32 × Int32 × gg_M → Prop} {G : gg_T} {Q : Int32 → gg_M → Prop} (hG : gg_Cl none cX11_fitsNow 6 RX11 (some .int) 3 (gg_eI Q) G)  (h : w_X11_fitsNow_c78 a1 a2 a4 z0 u k23 Q)  (hk23 : ∀ s : Int32 × Int32 × Int32 × gg_M, k23 s → G 23 [some (.ref 1), some (.int a1), some (.int s.1), some (.int s.2.1), some (.int s.2.2.1), none] [] s.2.2.2) : G 78 [some (.ref 1), some (.int a1), some (.int a2), none, some (.int a4), none] [.int z0] u := by
  unfold w_X11_fitsNow_c78 at h
  refine gg_istore_n (L1 := [some (.ref 1), some (.int a1), some (.int a2), some (.int z0), some (.int a4), none]) hG dX11_fitsNow_78 rfl (by decide) rfl ?_
  refine gg_iinc (v := (a4 + 1)) (L1 := [some (.ref 1), some (.int a1), some (.int a2), some (.int z0), some (.int (a4 + 1)), none]) hG dX11_fitsNow_79 rfl rfl (by decide) rfl ?_
  refine gg_goto (tgt := 23) hG dX11_fitsNow_82 (by decide) ?_
  exact hk23 _ h
def w_X11_fitsNow_c65 (a1 : Int32) (a3 : Int32) (a4 : Int32) (a5 : Int32) (z0 : Int32) (u : gg_M) (k23 : Int32 × Int32 × Int32 × gg_M → Prop) (Q : Int32 → gg_M → Prop) : Prop :=
  (a3 ≤ a5 →
   w_X11_fitsNow_c78 a1 z0 a4 a3 u k23 Q) ∧
  (¬ a3 ≤ a5 →
   w_X11_fitsNow_c78 a1 z0 a4 a5 u k23 Q)
set_option maxRecDepth 10000 in
theorem m_X11_fitsNow_c65 {a1 : Int32} {a3 : Int32} {a4 : Int32} {a5 : Int32} {z0 : Int32} {u : gg_M} {k23 : Int32 × Int32 × Int32 × gg_M → Prop} {G : gg_T} {Q : Int32 → gg_M → Prop} (hG : gg_Cl none cX11_fitsNow 6 RX11 (some .int) 3 (gg_eI Q) G)  (h : w_X11_fitsNow_c65 a1 a3 a4 a5 z0 u k23 Q)  (hk23 : ∀ s : Int32 × Int32 × Int32 × gg_M, k23 s → G 23 [some (.ref 1), some (.int a1), some (.int s.1), some (.int s.2.1), some (.int s.2.2.1), none] [] s.2.2.2) : G 65 [some (.ref 1), some (.int a1), none, some (.int a3), some (.int a4), some (.int a5)] [.int z0] u := by
  unfold w_X11_fitsNow_c65 at h
  refine gg_istore_n (L1 := [some (.ref 1), some (.int a1), some (.int z0), some (.int a3), some (.int a4), some (.int a5)]) hG dX11_fitsNow_65 rfl (by decide) rfl ?_
  refine gg_iload hG dX11_fitsNow_66 rfl ?_
  refine gg_iload_n hG dX11_fitsNow_68 rfl rfl ?_
  refine gg_ic_ge (tgt := 77) hG dX11_fitsNow_69 (by decide) (fun c1 => ?_) (fun c1 => ?_)
  · replace h := h.1 c1
    refine gg_iload_n hG dX11_fitsNow_77 rfl rfl ?_
    refine gg_mk hG [true, true, true, false, true, false] rfl ?_
    exact m_X11_fitsNow_c78 hG h hk23
  · replace h := h.2 c1
    refine gg_iload hG dX11_fitsNow_72 rfl ?_
    refine gg_goto (tgt := 78) hG dX11_fitsNow_74 (by decide) ?_
    refine gg_mk hG [true, true, true, false, true, false] rfl ?_
    exact m_X11_fitsNow_c78 hG h hk23
def b_X11_fitsNow_c23 (a1 : Int32) (a2 : Int32) (a3 : Int32) (a4 : Int32) (u : gg_M)  (k23 : Int32 × Int32 × Int32 × gg_M → Prop) (Q : Int32 → gg_M → Prop) : Prop :=
  (400 ≤ a4 →
   (¬ a1 = 0 →
    (¬ a1 = 1 →
     (¬ a1 = 2 →
      w_X11_fitsNow_c122 a3 u Q) ∧
     (a1 = 2 →
      w_X11_fitsNow_c122 (a2 - a2 / 4 * 4) u Q)) ∧
    (a1 = 1 →
     w_X11_fitsNow_c122 ((a2 / 4) - (a2 / 4) / 10 * 10) u Q)) ∧
   (a1 = 0 →
    w_X11_fitsNow_c122 (a2 / 40) u Q)) ∧
  (¬ 400 ≤ a4 →
   w_X11_missesOf (a4 / 40) ((a4 / 4) - (a4 / 4) / 10 * 10) (a4 - a4 / 4 * 4) u (fun v7 u6 =>
   (a3 ≤ v7 →
    w_X11_fitsNow_c65 a1 a3 a4 v7 a2 u6 k23 Q) ∧
   (¬ a3 ≤ v7 →
    w_X11_fitsNow_c65 a1 a3 a4 v7 a4 u6 k23 Q)))
set_option maxRecDepth 10000 in
theorem mb_X11_fitsNow_c23 {a1 : Int32} {a2 : Int32} {a3 : Int32} {a4 : Int32} {u : gg_M}  {k23 : Int32 × Int32 × Int32 × gg_M → Prop} {G : gg_T} {Q : Int32 → gg_M → Prop} (hG : gg_Cl none cX11_fitsNow 6 RX11 (some .int) 3 (gg_eI Q) G)  (h : b_X11_fitsNow_c23 a1 a2 a3 a4 u k23 Q)   (hk23 : ∀ s : Int32 × Int32 × Int32 × gg_M, k23 s → G 23 [some (.ref 1), some (.int a1), some (.int s.1), some (.int s.2.1), some (.int s.2.2.1), none] [] s.2.2.2) : G 23 [some (.ref 1), some (.int a1), some (.int a2), some (.int a3), some (.int a4), none] [] u := by
  unfold b_X11_fitsNow_c23 at h
  refine gg_iload hG dX11_fitsNow_23 rfl ?_
  refine gg_sipush (v := 400) hG dX11_fitsNow_25 (by decide) ?_
  refine gg_ic_ge (tgt := 85) hG dX11_fitsNow_28 (by decide) (fun c2 => ?_) (fun c2 => ?_)
  · replace h := h.1 c2
    refine gg_iload_n hG dX11_fitsNow_85 rfl rfl ?_
    refine gg_if_ne (tgt := 96) hG dX11_fitsNow_86 (by decide) (fun c3 => ?_) (fun c3 => ?_)
    · replace h := h.1 c3
      refine gg_iload_n hG dX11_fitsNow_96 rfl rfl ?_
      refine gg_iconst (v := 1) hG dX11_fitsNow_97 (by decide) ?_
      refine gg_ic_ne (tgt := 110) hG dX11_fitsNow_98 (by decide) (fun c4 => ?_) (fun c4 => ?_)
      · replace h := h.1 c4
        refine gg_iload_n hG dX11_fitsNow_110 rfl rfl ?_
        refine gg_iconst (v := 2) hG dX11_fitsNow_111 (by decide) ?_
        refine gg_ic_ne (tgt := 121) hG dX11_fitsNow_112 (by decide) (fun c5 => ?_) (fun c5 => ?_)
        · replace h := h.1 c5
          refine gg_iload_n hG dX11_fitsNow_121 rfl rfl ?_
          refine gg_mk hG [false, false, false, false, false, false] rfl ?_
          exact m_X11_fitsNow_c122 hG h
        · replace h := h.2 c5
          refine gg_iload_n hG dX11_fitsNow_115 rfl rfl ?_
          refine gg_iconst (v := 4) hG dX11_fitsNow_116 (by decide) ?_
          refine gg_irem hG dX11_fitsNow_117 (by decide) ?_
          refine gg_goto (tgt := 122) hG dX11_fitsNow_118 (by decide) ?_
          refine gg_mk hG [false, false, false, false, false, false] rfl ?_
          exact m_X11_fitsNow_c122 hG h
      · replace h := h.2 c4
        refine gg_iload_n hG dX11_fitsNow_101 rfl rfl ?_
        refine gg_iconst (v := 4) hG dX11_fitsNow_102 (by decide) ?_
        refine gg_idiv hG dX11_fitsNow_103 (by decide) ?_
        refine gg_bipush (v := 10) hG dX11_fitsNow_104 (by decide) ?_
        refine gg_irem hG dX11_fitsNow_106 (by decide) ?_
        refine gg_goto (tgt := 122) hG dX11_fitsNow_107 (by decide) ?_
        refine gg_mk hG [false, false, false, false, false, false] rfl ?_
        exact m_X11_fitsNow_c122 hG h
    · replace h := h.2 c3
      refine gg_iload_n hG dX11_fitsNow_89 rfl rfl ?_
      refine gg_bipush (v := 40) hG dX11_fitsNow_90 (by decide) ?_
      refine gg_idiv hG dX11_fitsNow_92 (by decide) ?_
      refine gg_goto (tgt := 122) hG dX11_fitsNow_93 (by decide) ?_
      refine gg_mk hG [false, false, false, false, false, false] rfl ?_
      exact m_X11_fitsNow_c122 hG h
  · replace h := h.2 c2
    refine gg_aload_n hG dX11_fitsNow_31 rfl rfl ?_
    refine gg_iload hG dX11_fitsNow_32 rfl ?_
    refine gg_bipush (v := 40) hG dX11_fitsNow_34 (by decide) ?_
    refine gg_idiv hG dX11_fitsNow_36 (by decide) ?_
    refine gg_iload hG dX11_fitsNow_37 rfl ?_
    refine gg_iconst (v := 4) hG dX11_fitsNow_39 (by decide) ?_
    refine gg_idiv hG dX11_fitsNow_40 (by decide) ?_
    refine gg_bipush (v := 10) hG dX11_fitsNow_41 (by decide) ?_
    refine gg_irem hG dX11_fitsNow_43 (by decide) ?_
    refine gg_iload hG dX11_fitsNow_44 rfl ?_
    refine gg_iconst (v := 4) hG dX11_fitsNow_46 (by decide) ?_
    refine gg_irem hG dX11_fitsNow_47 (by decide) ?_
    refine gg_xv (As := [.int (a4 / 40), .int ((a4 / 4) - (a4 / 4) / 10 * 10), .int (a4 - a4 / 4 * 4)]) (st := []) hG dX11_fitsNow_48 ml_RX11_239 Y_X11_missesOf YV_X11_missesOf (by decide) ⟨_, rfl, rfl⟩ (mt_X11_missesOf h) rfl (by decide) (Nat.le_of_ble_eq_true rfl) rfl (gg_ki (fun v7 u6 h => ?_))
    refine gg_istore (L1 := [some (.ref 1), some (.int a1), some (.int a2), some (.int a3), some (.int a4), some (.int v7)]) hG dX11_fitsNow_51 (by decide) rfl ?_
    refine gg_iload hG dX11_fitsNow_53 rfl ?_
    refine gg_iload_n hG dX11_fitsNow_55 rfl rfl ?_
    refine gg_ic_ge (tgt := 64) hG dX11_fitsNow_56 (by decide) (fun c8 => ?_) (fun c8 => ?_)
    · replace h := h.1 c8
      refine gg_iload_n hG dX11_fitsNow_64 rfl rfl ?_
      refine gg_mk hG [true, true, false, true, true, true] rfl ?_
      exact m_X11_fitsNow_c65 hG h hk23
    · replace h := h.2 c8
      refine gg_iload hG dX11_fitsNow_59 rfl ?_
      refine gg_goto (tgt := 65) hG dX11_fitsNow_61 (by decide) ?_
      refine gg_mk hG [true, true, false, true, true, true] rfl ?_
      exact m_X11_fitsNow_c65 hG h hk23
def w_X11_fitsNow_c23 (a1 : Int32) (a2 : Int32) (a3 : Int32) (a4 : Int32) (u : gg_M)  (Q : Int32 → gg_M → Prop) : Prop :=
  gg_loop (fun (s : Int32 × Int32 × Int32 × gg_M) k23 => b_X11_fitsNow_c23 a1 s.1 s.2.1 s.2.2.1 s.2.2.2  k23 Q) (a2, a3, a4, u)
set_option maxRecDepth 10000 in
theorem m_X11_fitsNow_c23 {a1 : Int32} {a2 : Int32} {a3 : Int32} {a4 : Int32} {u : gg_M}  {G : gg_T} {Q : Int32 → gg_M → Prop} (hG : gg_Cl none cX11_fitsNow 6 RX11 (some .int) 3 (gg_eI Q) G)  (h : w_X11_fitsNow_c23 a1 a2 a3 a4 u  Q)   : G 23 [some (.ref 1), some (.int a1), some (.int a2), some (.int a3), some (.int a4), none] [] u :=
  gg_loop_use (P := fun s : Int32 × Int32 × Int32 × gg_M => G 23 [some (.ref 1), some (.int a1), some (.int s.1), some (.int s.2.1), some (.int s.2.2.1), none] [] s.2.2.2) h (fun s rc hb hr => mb_X11_fitsNow_c23 hG  hb   hr)
def w_X11_fitsNow (a1 : Int32) (u : gg_M)  (Q : Int32 → gg_M → Prop) : Prop :=
  (¬ (u.1 1 15) = 0 →
   w_X11_missesOf 0 0 0 u (fun v11 u10 =>
   w_X11_fitsNow_c23 a1 0 v11 1 u10 Q)) ∧
  ((u.1 1 15) = 0 →
   Q (-3) u)
set_option maxRecDepth 10000 in
theorem m_X11_fitsNow {a1 : Int32} {u : gg_M}  {G : gg_T} {Q : Int32 → gg_M → Prop} (hG : gg_Cl none cX11_fitsNow 6 RX11 (some .int) 3 (gg_eI Q) G)  (h : w_X11_fitsNow a1 u  Q)   : G 0 [some (.ref 1), some (.int a1), none, none, none, none] [] u := by
  unfold w_X11_fitsNow at h
  refine gg_aload_n hG dX11_fitsNow_0 rfl rfl ?_
  refine gg_get (v := .int (u.1 1 15)) hG dX11_fitsNow_1 (by decide) rfl fl_RX11_226 rfl ?_
  refine gg_if_ne (tgt := 10) hG dX11_fitsNow_4 (by decide) (fun c9 => ?_) (fun c9 => ?_)
  · replace h := h.1 c9
    refine gg_iconst (v := 0) hG dX11_fitsNow_10 (by decide) ?_
    refine gg_istore_n (L1 := [some (.ref 1), some (.int a1), some (.int 0), none, none, none]) hG dX11_fitsNow_11 rfl (by decide) rfl ?_
    refine gg_aload_n hG dX11_fitsNow_12 rfl rfl ?_
    refine gg_iconst (v := 0) hG dX11_fitsNow_13 (by decide) ?_
    refine gg_iconst (v := 0) hG dX11_fitsNow_14 (by decide) ?_
    refine gg_iconst (v := 0) hG dX11_fitsNow_15 (by decide) ?_
    refine gg_xv (As := [.int 0, .int 0, .int 0]) (st := []) hG dX11_fitsNow_16 ml_RX11_239 Y_X11_missesOf YV_X11_missesOf (by decide) ⟨_, rfl, rfl⟩ (mt_X11_missesOf h) rfl (by decide) (Nat.le_of_ble_eq_true rfl) rfl (gg_ki (fun v11 u10 h => ?_))
    refine gg_istore_n (L1 := [some (.ref 1), some (.int a1), some (.int 0), some (.int v11), none, none]) hG dX11_fitsNow_19 rfl (by decide) rfl ?_
    refine gg_iconst (v := 1) hG dX11_fitsNow_20 (by decide) ?_
    refine gg_istore (L1 := [some (.ref 1), some (.int a1), some (.int 0), some (.int v11), some (.int 1), none]) hG dX11_fitsNow_21 (by decide) rfl ?_
    exact m_X11_fitsNow_c23 hG h
  · replace h := h.2 c9
    refine gg_bipush (v := (-3)) hG dX11_fitsNow_7 (by decide) ?_
    exact gg_iret hG dX11_fitsNow_9 rfl rfl ⟨_, rfl, h⟩
theorem mt_X11_fitsNow {a1 : Int32}  {u : gg_M} {Q : Int32 → gg_M → Prop} (h : w_X11_fitsNow a1 u Q) : gg_Mt 3 yX11_fitsNow cX11_fitsNow 6 (some .int) [.ref 1, .int a1] u (gg_eI Q) :=
  gg_intro (own := RX11) (by decide +kernel) rfl rfl (Nat.le_of_ble_eq_true rfl) (fun G hG => m_X11_fitsNow hG  h)
/-! X11_fits -/
def w_X11_fits_c19 (z0 : Int32) (u : gg_M)  (Q : Int32 → gg_M → Prop) : Prop :=
  Q z0 u
set_option maxRecDepth 10000 in
theorem m_X11_fits_c19 {z0 : Int32} {u : gg_M}  {G : gg_T} {Q : Int32 → gg_M → Prop} (hG : gg_Cl none cX11_fits 2 RX11 (some .int) 4 (gg_eI Q) G)  (h : w_X11_fits_c19 z0 u  Q)   : G 19 [none, none] [.int z0] u := by
  unfold w_X11_fits_c19 at h
  exact gg_iret hG dX11_fits_19 rfl rfl ⟨_, rfl, h⟩
def w_X11_fits (a1 : Int32) (u : gg_M)  (Q : Int32 → gg_M → Prop) : Prop :=
  w_X11_in a1 0 3 u (fun v2 u1 =>
  (v2 = 0 →
   w_X11_fits_c19 (-2) u1 Q) ∧
  (¬ v2 = 0 →
   w_X11_fitsNow a1 u1 (fun v5 u4 =>
   w_X11_fits_c19 v5 u4 Q)))
set_option maxRecDepth 10000 in
theorem m_X11_fits {a1 : Int32} {u : gg_M}  {G : gg_T} {Q : Int32 → gg_M → Prop} (hG : gg_Cl none cX11_fits 2 RX11 (some .int) 4 (gg_eI Q) G)  (h : w_X11_fits a1 u  Q)   : G 0 [some (.ref 1), some (.int a1)] [] u := by
  unfold w_X11_fits at h
  refine gg_iload_n hG dX11_fits_0 rfl rfl ?_
  refine gg_iconst (v := 0) hG dX11_fits_1 (by decide) ?_
  refine gg_iconst (v := 3) hG dX11_fits_2 (by decide) ?_
  refine gg_xs (As := [.int a1, .int 0, .int 3]) (st := []) hG dX11_fits_3 ml_RX11_68 Y_X11_in YS_X11_in (mt_X11_in h) rfl (by decide) (Nat.le_of_ble_eq_true rfl) rfl (gg_ki (fun v2 u1 h => ?_))
  refine gg_if_eq (tgt := 17) hG dX11_fits_6 (by decide) (fun c3 => ?_) (fun c3 => ?_)
  · replace h := h.1 c3
    refine gg_bipush (v := (-2)) hG dX11_fits_17 (by decide) ?_
    refine gg_mk hG [false, false] rfl ?_
    exact m_X11_fits_c19 hG h
  · replace h := h.2 c3
    refine gg_aload_n hG dX11_fits_9 rfl rfl ?_
    refine gg_iload_n hG dX11_fits_10 rfl rfl ?_
    refine gg_xv (As := [.int a1]) (st := []) hG dX11_fits_11 ml_RX11_242 Y_X11_fitsNow YV_X11_fitsNow (by decide) ⟨_, rfl, rfl⟩ (mt_X11_fitsNow h) rfl (by decide) (Nat.le_of_ble_eq_true rfl) rfl (gg_ki (fun v5 u4 h => ?_))
    refine gg_goto (tgt := 19) hG dX11_fits_14 (by decide) ?_
    refine gg_mk hG [false, false] rfl ?_
    exact m_X11_fits_c19 hG h
theorem mt_X11_fits {a1 : Int32}  {u : gg_M} {Q : Int32 → gg_M → Prop} (h : w_X11_fits a1 u Q) : gg_Mt 4 yX11_fits cX11_fits 2 (some .int) [.ref 1, .int a1] u (gg_eI Q) :=
  gg_intro (own := RX11) (by decide +kernel) rfl rfl (Nat.le_of_ble_eq_true rfl) (fun G hG => m_X11_fits hG  h)
/-! X11_sheet -/
def b_X11_sheet_c59 (a1 : Int32) (a3 : Int32) (a4 : Int32) (u : gg_M)  (k59 : Int32 × gg_M → Prop) (Q : Int32 → gg_M → Prop) : Prop :=
  (48 ≤ a4 →
   Q a3 u) ∧
  (¬ 48 ≤ a4 →
   vp_in (((48 : Int32) * a1) + a4) 192 ∧
   ∀ u3 : gg_M, u3 = gg_wI u 63 ((((48 : Int32) * a1) + a4).toNatClampNeg) 0 →
   k59 ((a4 + 1), u3))
set_option maxRecDepth 10000 in
theorem mb_X11_sheet_c59 {a1 : Int32} {a3 : Int32} {a4 : Int32} {u : gg_M}  {k59 : Int32 × gg_M → Prop} {G : gg_T} {Q : Int32 → gg_M → Prop} (hG : gg_Cl none cX11_sheet 5 RX11 (some .int) 3 (gg_eI Q) G)  (h : b_X11_sheet_c59 a1 a3 a4 u k59 Q)   (hk59 : ∀ s : Int32 × gg_M, k59 s → G 59 [some (.ref 1), some (.int a1), none, some (.int a3), some (.int s.1)] [] s.2) : G 59 [some (.ref 1), some (.int a1), none, some (.int a3), some (.int a4)] [] u := by
  unfold b_X11_sheet_c59 at h
  refine gg_iload hG dX11_sheet_59 rfl ?_
  refine gg_bipush (v := 48) hG dX11_sheet_61 (by decide) ?_
  refine gg_ic_ge (tgt := 85) hG dX11_sheet_63 (by decide) (fun c1 => ?_) (fun c1 => ?_)
  · replace h := h.1 c1
    refine gg_iload_n hG dX11_sheet_85 rfl rfl ?_
    exact gg_iret hG dX11_sheet_86 rfl rfl ⟨_, rfl, h⟩
  · replace h := h.2 c1
    refine gg_aload_n hG dX11_sheet_66 rfl rfl ?_
    refine gg_get (v := .ref 63) hG dX11_sheet_67 (by decide) rfl fl_RX11_60 rfl ?_
    refine gg_bipush (v := 48) hG dX11_sheet_70 (by decide) ?_
    refine gg_iload_n hG dX11_sheet_72 rfl rfl ?_
    refine gg_imul hG dX11_sheet_73 ?_
    refine gg_iload hG dX11_sheet_74 rfl ?_
    refine gg_iadd hG dX11_sheet_76 ?_
    refine gg_iconst (v := 0) hG dX11_sheet_77 (by decide) ?_
    obtain ⟨h2, h⟩ := h
    refine gg_iast (j := (((48 : Int32) * a1) + a4).toNatClampNeg) hG dX11_sheet_78 (by decide) rfl h2 rfl ?_
    refine gg_nu (fun u3 eu3 => ?_)
    replace h := h u3 eu3
    refine gg_iinc (v := (a4 + 1)) (L1 := [some (.ref 1), some (.int a1), none, some (.int a3), some (.int (a4 + 1))]) hG dX11_sheet_79 rfl rfl (by decide) rfl ?_
    refine gg_goto (tgt := 59) hG dX11_sheet_82 (by decide) ?_
    exact hk59 _ h
def w_X11_sheet_c59 (a1 : Int32) (a3 : Int32) (a4 : Int32) (u : gg_M)  (Q : Int32 → gg_M → Prop) : Prop :=
  gg_loop (fun (s : Int32 × gg_M) k59 => b_X11_sheet_c59 a1 a3 s.1 s.2  k59 Q) (a4, u)
set_option maxRecDepth 10000 in
theorem m_X11_sheet_c59 {a1 : Int32} {a3 : Int32} {a4 : Int32} {u : gg_M}  {G : gg_T} {Q : Int32 → gg_M → Prop} (hG : gg_Cl none cX11_sheet 5 RX11 (some .int) 3 (gg_eI Q) G)  (h : w_X11_sheet_c59 a1 a3 a4 u  Q)   : G 59 [some (.ref 1), some (.int a1), none, some (.int a3), some (.int a4)] [] u :=
  gg_loop_use (P := fun s : Int32 × gg_M => G 59 [some (.ref 1), some (.int a1), none, some (.int a3), some (.int s.1)] [] s.2) h (fun s rc hb hr => mb_X11_sheet_c59 hG  hb   hr)
def w_X11_sheet_c22  (u : gg_M)  (Q : Int32 → gg_M → Prop) : Prop :=
  Q (-2) u
set_option maxRecDepth 10000 in
theorem m_X11_sheet_c22  {u : gg_M}  {G : gg_T} {Q : Int32 → gg_M → Prop} (hG : gg_Cl none cX11_sheet 5 RX11 (some .int) 3 (gg_eI Q) G)  (h : w_X11_sheet_c22  u  Q)   : G 22 [none, none, none, none, none] [] u := by
  unfold w_X11_sheet_c22 at h
  refine gg_bipush (v := (-2)) hG dX11_sheet_22 (by decide) ?_
  exact gg_iret hG dX11_sheet_24 rfl rfl ⟨_, rfl, h⟩
def w_X11_sheet (a1 : Int32) (a2 : Int32) (a3 : Int32) (u : gg_M)  (Q : Int32 → gg_M → Prop) : Prop :=
  w_X11_isSheet a1 u (fun v5 u4 =>
  (v5 = 0 →
   w_X11_sheet_c22 u4 Q) ∧
  (¬ v5 = 0 →
   w_X11_in a2 0 2 u4 (fun v8 u7 =>
   (v8 = 0 →
    w_X11_sheet_c22 u7 Q) ∧
   (¬ v8 = 0 →
    (a3 ≤ 48 →
     (0 ≤ a3 →
      vp_in a1 4 ∧
      ∀ u13 : gg_M, u13 = gg_wI u7 60 a1.toNatClampNeg (vp_nar .boolean 1) →
      vp_in a1 4 ∧
      ∀ u15 : gg_M, u15 = gg_wI u13 61 a1.toNatClampNeg a2 →
      vp_in a1 4 ∧
      ∀ u17 : gg_M, u17 = gg_wI u15 62 a1.toNatClampNeg a3 →
      w_X11_sheet_c59 a1 a3 0 u17 Q) ∧
     (¬ 0 ≤ a3 →
      w_X11_meets 5 u7 (fun v19 u18 =>
      Q v19 u18))) ∧
    (¬ a3 ≤ 48 →
     w_X11_sheet_c22 u7 Q)))))
set_option maxRecDepth 10000 in
theorem m_X11_sheet {a1 : Int32} {a2 : Int32} {a3 : Int32} {u : gg_M}  {G : gg_T} {Q : Int32 → gg_M → Prop} (hG : gg_Cl none cX11_sheet 5 RX11 (some .int) 3 (gg_eI Q) G)  (h : w_X11_sheet a1 a2 a3 u  Q)   : G 0 [some (.ref 1), some (.int a1), some (.int a2), some (.int a3), none] [] u := by
  unfold w_X11_sheet at h
  refine gg_iload_n hG dX11_sheet_0 rfl rfl ?_
  refine gg_xs (As := [.int a1]) (st := []) hG dX11_sheet_1 ml_RX11_129 Y_X11_isSheet YS_X11_isSheet (mt_X11_isSheet h) rfl (by decide) (Nat.le_of_ble_eq_true rfl) rfl (gg_ki (fun v5 u4 h => ?_))
  refine gg_if_eq (tgt := 22) hG dX11_sheet_4 (by decide) (fun c6 => ?_) (fun c6 => ?_)
  · replace h := h.1 c6
    refine gg_mk hG [false, false, false, false, false] rfl ?_
    exact m_X11_sheet_c22 hG h
  · replace h := h.2 c6
    refine gg_iload_n hG dX11_sheet_7 rfl rfl ?_
    refine gg_iconst (v := 0) hG dX11_sheet_8 (by decide) ?_
    refine gg_iconst (v := 2) hG dX11_sheet_9 (by decide) ?_
    refine gg_xs (As := [.int a2, .int 0, .int 2]) (st := []) hG dX11_sheet_10 ml_RX11_68 Y_X11_in YS_X11_in (mt_X11_in h) rfl (by decide) (Nat.le_of_ble_eq_true rfl) rfl (gg_ki (fun v8 u7 h => ?_))
    refine gg_if_eq (tgt := 22) hG dX11_sheet_13 (by decide) (fun c9 => ?_) (fun c9 => ?_)
    · replace h := h.1 c9
      refine gg_mk hG [false, false, false, false, false] rfl ?_
      exact m_X11_sheet_c22 hG h
    · replace h := h.2 c9
      refine gg_iload_n hG dX11_sheet_16 rfl rfl ?_
      refine gg_bipush (v := 48) hG dX11_sheet_17 (by decide) ?_
      refine gg_ic_le (tgt := 25) hG dX11_sheet_19 (by decide) (fun c10 => ?_) (fun c10 => ?_)
      · replace h := h.1 c10
        refine gg_iload_n hG dX11_sheet_25 rfl rfl ?_
        refine gg_if_ge (tgt := 35) hG dX11_sheet_26 (by decide) (fun c11 => ?_) (fun c11 => ?_)
        · replace h := h.1 c11
          refine gg_aload_n hG dX11_sheet_35 rfl rfl ?_
          refine gg_get (v := .ref 60) hG dX11_sheet_36 (by decide) rfl fl_RX11_50 rfl ?_
          refine gg_iload_n hG dX11_sheet_39 rfl rfl ?_
          refine gg_iconst (v := 1) hG dX11_sheet_40 (by decide) ?_
          obtain ⟨h12, h⟩ := h
          refine gg_zast (j := a1.toNatClampNeg) hG dX11_sheet_41 (by decide) rfl h12 rfl ?_
          refine gg_nu (fun u13 eu13 => ?_)
          replace h := h u13 eu13
          refine gg_aload_n hG dX11_sheet_42 rfl rfl ?_
          refine gg_get (v := .ref 61) hG dX11_sheet_43 (by decide) rfl fl_RX11_54 rfl ?_
          refine gg_iload_n hG dX11_sheet_46 rfl rfl ?_
          refine gg_iload_n hG dX11_sheet_47 rfl rfl ?_
          obtain ⟨h14, h⟩ := h
          refine gg_iast (j := a1.toNatClampNeg) hG dX11_sheet_48 (by decide) rfl h14 rfl ?_
          refine gg_nu (fun u15 eu15 => ?_)
          replace h := h u15 eu15
          refine gg_aload_n hG dX11_sheet_49 rfl rfl ?_
          refine gg_get (v := .ref 62) hG dX11_sheet_50 (by decide) rfl fl_RX11_57 rfl ?_
          refine gg_iload_n hG dX11_sheet_53 rfl rfl ?_
          refine gg_iload_n hG dX11_sheet_54 rfl rfl ?_
          obtain ⟨h16, h⟩ := h
          refine gg_iast (j := a1.toNatClampNeg) hG dX11_sheet_55 (by decide) rfl h16 rfl ?_
          refine gg_nu (fun u17 eu17 => ?_)
          replace h := h u17 eu17
          refine gg_iconst (v := 0) hG dX11_sheet_56 (by decide) ?_
          refine gg_istore (L1 := [some (.ref 1), some (.int a1), some (.int a2), some (.int a3), some (.int 0)]) hG dX11_sheet_57 (by decide) rfl ?_
          refine gg_mk hG [true, true, false, true, true] rfl ?_
          exact m_X11_sheet_c59 hG h
        · replace h := h.2 c11
          refine gg_aload_n hG dX11_sheet_29 rfl rfl ?_
          refine gg_iconst (v := 5) hG dX11_sheet_30 (by decide) ?_
          refine gg_xv (As := [.int 5]) (st := []) hG dX11_sheet_31 ml_RX11_132 Y_X11_meets YV_X11_meets (by decide) ⟨_, rfl, rfl⟩ (mt_X11_meets h) rfl (by decide) (Nat.le_of_ble_eq_true rfl) rfl (gg_ki (fun v19 u18 h => ?_))
          exact gg_iret hG dX11_sheet_34 rfl rfl ⟨_, rfl, h⟩
      · replace h := h.2 c10
        refine gg_mk hG [false, false, false, false, false] rfl ?_
        exact m_X11_sheet_c22 hG h
theorem mt_X11_sheet {a1 : Int32} {a2 : Int32} {a3 : Int32}  {u : gg_M} {Q : Int32 → gg_M → Prop} (h : w_X11_sheet a1 a2 a3 u Q) : gg_Mt 3 yX11_sheet cX11_sheet 5 (some .int) [.ref 1, .int a1, .int a2, .int a3] u (gg_eI Q) :=
  gg_intro (own := RX11) (by decide +kernel) rfl rfl (Nat.le_of_ble_eq_true rfl) (fun G hG => m_X11_sheet hG  h)
/-! X11_lose -/
def w_X11_lose (a1 : Int32) (u : gg_M)  (Q : Int32 → gg_M → Prop) : Prop :=
  w_X11_isSheet a1 u (fun v2 u1 =>
  (¬ v2 = 0 →
   vp_in a1 4 ∧
   (¬ (u1.1 60 a1.toNatClampNeg) = 0 →
    vp_in a1 4 ∧
    ∀ u7 : gg_M, u7 = gg_wI u1 60 a1.toNatClampNeg (vp_nar .boolean 0) →
    vp_in a1 4 ∧
    Q (u7.1 62 a1.toNatClampNeg) u7) ∧
   ((u1.1 60 a1.toNatClampNeg) = 0 →
    w_X11_meets 1 u1 (fun v10 u9 =>
    Q v10 u9))) ∧
  (v2 = 0 →
   Q (-2) u1))
set_option maxRecDepth 10000 in
theorem m_X11_lose {a1 : Int32} {u : gg_M}  {G : gg_T} {Q : Int32 → gg_M → Prop} (hG : gg_Cl none cX11_lose 2 RX11 (some .int) 3 (gg_eI Q) G)  (h : w_X11_lose a1 u  Q)   : G 0 [some (.ref 1), some (.int a1)] [] u := by
  unfold w_X11_lose at h
  refine gg_iload_n hG dX11_lose_0 rfl rfl ?_
  refine gg_xs (As := [.int a1]) (st := []) hG dX11_lose_1 ml_RX11_129 Y_X11_isSheet YS_X11_isSheet (mt_X11_isSheet h) rfl (by decide) (Nat.le_of_ble_eq_true rfl) rfl (gg_ki (fun v2 u1 h => ?_))
  refine gg_if_ne (tgt := 10) hG dX11_lose_4 (by decide) (fun c3 => ?_) (fun c3 => ?_)
  · replace h := h.1 c3
    refine gg_aload_n hG dX11_lose_10 rfl rfl ?_
    refine gg_get (v := .ref 60) hG dX11_lose_11 (by decide) rfl fl_RX11_50 rfl ?_
    refine gg_iload_n hG dX11_lose_14 rfl rfl ?_
    obtain ⟨h4, h⟩ := h
    refine gg_zald (j := a1.toNatClampNeg) hG dX11_lose_15 (by decide) rfl h4 rfl ?_
    refine gg_if_ne (tgt := 25) hG dX11_lose_16 (by decide) (fun c5 => ?_) (fun c5 => ?_)
    · replace h := h.1 c5
      refine gg_aload_n hG dX11_lose_25 rfl rfl ?_
      refine gg_get (v := .ref 60) hG dX11_lose_26 (by decide) rfl fl_RX11_50 rfl ?_
      refine gg_iload_n hG dX11_lose_29 rfl rfl ?_
      refine gg_iconst (v := 0) hG dX11_lose_30 (by decide) ?_
      obtain ⟨h6, h⟩ := h
      refine gg_zast (j := a1.toNatClampNeg) hG dX11_lose_31 (by decide) rfl h6 rfl ?_
      refine gg_nu (fun u7 eu7 => ?_)
      replace h := h u7 eu7
      refine gg_aload_n hG dX11_lose_32 rfl rfl ?_
      refine gg_get (v := .ref 62) hG dX11_lose_33 (by decide) rfl fl_RX11_57 rfl ?_
      refine gg_iload_n hG dX11_lose_36 rfl rfl ?_
      obtain ⟨h8, h⟩ := h
      refine gg_iald (j := a1.toNatClampNeg) hG dX11_lose_37 (by decide) rfl h8 rfl ?_
      exact gg_iret hG dX11_lose_38 rfl rfl ⟨_, rfl, h⟩
    · replace h := h.2 c5
      refine gg_aload_n hG dX11_lose_19 rfl rfl ?_
      refine gg_iconst (v := 1) hG dX11_lose_20 (by decide) ?_
      refine gg_xv (As := [.int 1]) (st := []) hG dX11_lose_21 ml_RX11_132 Y_X11_meets YV_X11_meets (by decide) ⟨_, rfl, rfl⟩ (mt_X11_meets h) rfl (by decide) (Nat.le_of_ble_eq_true rfl) rfl (gg_ki (fun v10 u9 h => ?_))
      exact gg_iret hG dX11_lose_24 rfl rfl ⟨_, rfl, h⟩
  · replace h := h.2 c3
    refine gg_bipush (v := (-2)) hG dX11_lose_7 (by decide) ?_
    exact gg_iret hG dX11_lose_9 rfl rfl ⟨_, rfl, h⟩
theorem mt_X11_lose {a1 : Int32}  {u : gg_M} {Q : Int32 → gg_M → Prop} (h : w_X11_lose a1 u Q) : gg_Mt 3 yX11_lose cX11_lose 2 (some .int) [.ref 1, .int a1] u (gg_eI Q) :=
  gg_intro (own := RX11) (by decide +kernel) rfl rfl (Nat.le_of_ble_eq_true rfl) (fun G hG => m_X11_lose hG  h)
/-! X11_lacks -/
def w_X11_lacks_c48 (z0 : Int32) (u : gg_M)  (Q : Int32 → gg_M → Prop) : Prop :=
  Q z0 u
set_option maxRecDepth 10000 in
theorem m_X11_lacks_c48 {z0 : Int32} {u : gg_M}  {G : gg_T} {Q : Int32 → gg_M → Prop} (hG : gg_Cl none cX11_lacks 4 RX11 (some .int) 2 (gg_eI Q) G)  (h : w_X11_lacks_c48 z0 u  Q)   : G 48 [none, none, none, none] [.int z0] u := by
  unfold w_X11_lacks_c48 at h
  exact gg_iret hG dX11_lacks_48 rfl rfl ⟨_, rfl, h⟩
def w_X11_lacks (a1 : Int32) (a2 : Int32) (a3 : Int32) (u : gg_M)  (Q : Int32 → gg_M → Prop) : Prop :=
  vp_in a1 4 ∧
  (¬ (u.1 60 a1.toNatClampNeg) = 0 →
   vp_in a1 4 ∧
   ((u.1 61 a1.toNatClampNeg) = a2 →
    vp_in a1 4 ∧
    w_X11_in a3 0 ((u.1 62 a1.toNatClampNeg) - 1) u (fun v7 u6 =>
    (v7 = 0 →
     w_X11_lacks_c48 2 u6 Q) ∧
    (¬ v7 = 0 →
     w_X11_lacks_c48 0 u6 Q))) ∧
   (¬ (u.1 61 a1.toNatClampNeg) = a2 →
    w_X11_lacks_c48 3 u Q)) ∧
  ((u.1 60 a1.toNatClampNeg) = 0 →
   w_X11_lacks_c48 1 u Q)
set_option maxRecDepth 10000 in
theorem m_X11_lacks {a1 : Int32} {a2 : Int32} {a3 : Int32} {u : gg_M}  {G : gg_T} {Q : Int32 → gg_M → Prop} (hG : gg_Cl none cX11_lacks 4 RX11 (some .int) 2 (gg_eI Q) G)  (h : w_X11_lacks a1 a2 a3 u  Q)   : G 0 [some (.ref 1), some (.int a1), some (.int a2), some (.int a3)] [] u := by
  unfold w_X11_lacks at h
  refine gg_aload_n hG dX11_lacks_0 rfl rfl ?_
  refine gg_get (v := .ref 60) hG dX11_lacks_1 (by decide) rfl fl_RX11_50 rfl ?_
  refine gg_iload_n hG dX11_lacks_4 rfl rfl ?_
  obtain ⟨h1, h⟩ := h
  refine gg_zald (j := a1.toNatClampNeg) hG dX11_lacks_5 (by decide) rfl h1 rfl ?_
  refine gg_if_ne (tgt := 13) hG dX11_lacks_6 (by decide) (fun c2 => ?_) (fun c2 => ?_)
  · replace h := h.1 c2
    refine gg_aload_n hG dX11_lacks_13 rfl rfl ?_
    refine gg_get (v := .ref 61) hG dX11_lacks_14 (by decide) rfl fl_RX11_54 rfl ?_
    refine gg_iload_n hG dX11_lacks_17 rfl rfl ?_
    obtain ⟨h3, h⟩ := h
    refine gg_iald (j := a1.toNatClampNeg) hG dX11_lacks_18 (by decide) rfl h3 rfl ?_
    refine gg_iload_n hG dX11_lacks_19 rfl rfl ?_
    refine gg_ic_eq (tgt := 27) hG dX11_lacks_20 (by decide) (fun c4 => ?_) (fun c4 => ?_)
    · replace h := h.1 c4
      refine gg_iload_n hG dX11_lacks_27 rfl rfl ?_
      refine gg_iconst (v := 0) hG dX11_lacks_28 (by decide) ?_
      refine gg_aload_n hG dX11_lacks_29 rfl rfl ?_
      refine gg_get (v := .ref 62) hG dX11_lacks_30 (by decide) rfl fl_RX11_57 rfl ?_
      refine gg_iload_n hG dX11_lacks_33 rfl rfl ?_
      obtain ⟨h5, h⟩ := h
      refine gg_iald (j := a1.toNatClampNeg) hG dX11_lacks_34 (by decide) rfl h5 rfl ?_
      refine gg_iconst (v := 1) hG dX11_lacks_35 (by decide) ?_
      refine gg_isub hG dX11_lacks_36 ?_
      refine gg_xs (As := [.int a3, .int 0, .int ((u.1 62 a1.toNatClampNeg) - 1)]) (st := []) hG dX11_lacks_37 ml_RX11_68 Y_X11_in YS_X11_in (mt_X11_in h) rfl (by decide) (Nat.le_of_ble_eq_true rfl) rfl (gg_ki (fun v7 u6 h => ?_))
      refine gg_if_eq (tgt := 47) hG dX11_lacks_40 (by decide) (fun c8 => ?_) (fun c8 => ?_)
      · replace h := h.1 c8
        refine gg_iconst (v := 2) hG dX11_lacks_47 (by decide) ?_
        refine gg_mk hG [false, false, false, false] rfl ?_
        exact m_X11_lacks_c48 hG h
      · replace h := h.2 c8
        refine gg_iconst (v := 0) hG dX11_lacks_43 (by decide) ?_
        refine gg_goto (tgt := 48) hG dX11_lacks_44 (by decide) ?_
        refine gg_mk hG [false, false, false, false] rfl ?_
        exact m_X11_lacks_c48 hG h
    · replace h := h.2 c4
      refine gg_iconst (v := 3) hG dX11_lacks_23 (by decide) ?_
      refine gg_goto (tgt := 48) hG dX11_lacks_24 (by decide) ?_
      refine gg_mk hG [false, false, false, false] rfl ?_
      exact m_X11_lacks_c48 hG h
  · replace h := h.2 c2
    refine gg_iconst (v := 1) hG dX11_lacks_9 (by decide) ?_
    refine gg_goto (tgt := 48) hG dX11_lacks_10 (by decide) ?_
    refine gg_mk hG [false, false, false, false] rfl ?_
    exact m_X11_lacks_c48 hG h
theorem mt_X11_lacks {a1 : Int32} {a2 : Int32} {a3 : Int32}  {u : gg_M} {Q : Int32 → gg_M → Prop} (h : w_X11_lacks a1 a2 a3 u Q) : gg_Mt 2 yX11_lacks cX11_lacks 4 (some .int) [.ref 1, .int a1, .int a2, .int a3] u (gg_eI Q) :=
  gg_intro (own := RX11) (by decide +kernel) rfl rfl (Nat.le_of_ble_eq_true rfl) (fun G hG => m_X11_lacks hG  h)
/-! X11_keep -/
def w_X11_keep_c40 (z1 : Int32) (z2 : Int32) (u : gg_M)  (Q : gg_M → Prop) : Prop :=
  vp_in z1 192 ∧
  ∀ u2 : gg_M, u2 = gg_wI u 63 z1.toNatClampNeg z2 →
  Q u2
set_option maxRecDepth 10000 in
theorem m_X11_keep_c40 {z1 : Int32} {z2 : Int32} {u : gg_M}  {G : gg_T} {Q : gg_M → Prop} (hG : gg_Cl none cX11_keep 4 RX11 none 1 (gg_eV Q) G)  (h : w_X11_keep_c40 z1 z2 u  Q)   : G 40 [none, none, none, none] [.int z2, .int z1, .ref 63] u := by
  unfold w_X11_keep_c40 at h
  obtain ⟨h1, h⟩ := h
  refine gg_iast (j := z1.toNatClampNeg) hG dX11_keep_40 (by decide) rfl h1 rfl ?_
  refine gg_nu (fun u2 eu2 => ?_)
  replace h := h u2 eu2
  exact gg_vret hG dX11_keep_41 rfl ⟨rfl, h⟩
def w_X11_keep (a1 : Int32) (a2 : Int32) (a3 : Int32) (u : gg_M)  (Q : gg_M → Prop) : Prop :=
  vp_in a1 4 ∧
  (¬ (u.1 61 a1.toNatClampNeg) = 0 →
   vp_in a1 4 ∧
   (¬ (u.1 61 a1.toNatClampNeg) = 1 →
    w_X11_keep_c40 (((48 : Int32) * a1) + a2) a3 u Q) ∧
   ((u.1 61 a1.toNatClampNeg) = 1 →
    w_X11_keep_c40 (((48 : Int32) * a1) + a2) a3.toInt16.toInt32 u Q)) ∧
  ((u.1 61 a1.toNatClampNeg) = 0 →
   w_X11_keep_c40 (((48 : Int32) * a1) + a2) a3.toInt8.toInt32 u Q)
set_option maxRecDepth 10000 in
theorem m_X11_keep {a1 : Int32} {a2 : Int32} {a3 : Int32} {u : gg_M}  {G : gg_T} {Q : gg_M → Prop} (hG : gg_Cl none cX11_keep 4 RX11 none 1 (gg_eV Q) G)  (h : w_X11_keep a1 a2 a3 u  Q)   : G 0 [some (.ref 1), some (.int a1), some (.int a2), some (.int a3)] [] u := by
  unfold w_X11_keep at h
  refine gg_aload_n hG dX11_keep_0 rfl rfl ?_
  refine gg_get (v := .ref 63) hG dX11_keep_1 (by decide) rfl fl_RX11_60 rfl ?_
  refine gg_bipush (v := 48) hG dX11_keep_4 (by decide) ?_
  refine gg_iload_n hG dX11_keep_6 rfl rfl ?_
  refine gg_imul hG dX11_keep_7 ?_
  refine gg_iload_n hG dX11_keep_8 rfl rfl ?_
  refine gg_iadd hG dX11_keep_9 ?_
  refine gg_aload_n hG dX11_keep_10 rfl rfl ?_
  refine gg_get (v := .ref 61) hG dX11_keep_11 (by decide) rfl fl_RX11_54 rfl ?_
  refine gg_iload_n hG dX11_keep_14 rfl rfl ?_
  obtain ⟨h3, h⟩ := h
  refine gg_iald (j := a1.toNatClampNeg) hG dX11_keep_15 (by decide) rfl h3 rfl ?_
  refine gg_if_ne (tgt := 24) hG dX11_keep_16 (by decide) (fun c4 => ?_) (fun c4 => ?_)
  · replace h := h.1 c4
    refine gg_aload_n hG dX11_keep_24 rfl rfl ?_
    refine gg_get (v := .ref 61) hG dX11_keep_25 (by decide) rfl fl_RX11_54 rfl ?_
    refine gg_iload_n hG dX11_keep_28 rfl rfl ?_
    obtain ⟨h5, h⟩ := h
    refine gg_iald (j := a1.toNatClampNeg) hG dX11_keep_29 (by decide) rfl h5 rfl ?_
    refine gg_iconst (v := 1) hG dX11_keep_30 (by decide) ?_
    refine gg_ic_ne (tgt := 39) hG dX11_keep_31 (by decide) (fun c6 => ?_) (fun c6 => ?_)
    · replace h := h.1 c6
      refine gg_iload_n hG dX11_keep_39 rfl rfl ?_
      refine gg_mk hG [false, false, false, false] rfl ?_
      exact m_X11_keep_c40 hG h
    · replace h := h.2 c6
      refine gg_iload_n hG dX11_keep_34 rfl rfl ?_
      refine gg_i2s hG dX11_keep_35 ?_
      refine gg_goto (tgt := 40) hG dX11_keep_36 (by decide) ?_
      refine gg_mk hG [false, false, false, false] rfl ?_
      exact m_X11_keep_c40 hG h
  · replace h := h.2 c4
    refine gg_iload_n hG dX11_keep_19 rfl rfl ?_
    refine gg_i2b hG dX11_keep_20 ?_
    refine gg_goto (tgt := 40) hG dX11_keep_21 (by decide) ?_
    refine gg_mk hG [false, false, false, false] rfl ?_
    exact m_X11_keep_c40 hG h
theorem mt_X11_keep {a1 : Int32} {a2 : Int32} {a3 : Int32}  {u : gg_M} {Q : gg_M → Prop} (h : w_X11_keep a1 a2 a3 u Q) : gg_Mt 1 yX11_keep cX11_keep 4 none [.ref 1, .int a1, .int a2, .int a3] u (gg_eV Q) :=
  gg_intro (own := RX11) (by decide +kernel) rfl rfl (Nat.le_of_ble_eq_true rfl) (fun G hG => m_X11_keep hG  h)
/-! X11_put -/
def w_X11_put_c16  (u : gg_M)  (Q : Int32 → gg_M → Prop) : Prop :=
  Q (-2) u
set_option maxRecDepth 10000 in
theorem m_X11_put_c16  {u : gg_M}  {G : gg_T} {Q : Int32 → gg_M → Prop} (hG : gg_Cl none cX11_put 6 RX11 (some .int) 3 (gg_eI Q) G)  (h : w_X11_put_c16  u  Q)   : G 16 [none, none, none, none, none, none] [] u := by
  unfold w_X11_put_c16 at h
  refine gg_bipush (v := (-2)) hG dX11_put_16 (by decide) ?_
  exact gg_iret hG dX11_put_18 rfl rfl ⟨_, rfl, h⟩
def w_X11_put (a1 : Int32) (a2 : Int32) (a3 : Int32) (a4 : Int32) (u : gg_M)  (Q : Int32 → gg_M → Prop) : Prop :=
  w_X11_isSheet a1 u (fun v2 u1 =>
  (v2 = 0 →
   w_X11_put_c16 u1 Q) ∧
  (¬ v2 = 0 →
   w_X11_in a2 0 2 u1 (fun v5 u4 =>
   (¬ v5 = 0 →
    w_X11_lacks a1 a2 a3 u4 (fun v8 u7 =>
    (v8 ≤ 0 →
     w_X11_keep a1 a3 a4 u7 (fun u10 =>
     Q 1 u10)) ∧
    (¬ v8 ≤ 0 →
     w_X11_meets v8 u7 (fun v12 u11 =>
     Q v12 u11)))) ∧
   (v5 = 0 →
    w_X11_put_c16 u4 Q))))
set_option maxRecDepth 10000 in
theorem m_X11_put {a1 : Int32} {a2 : Int32} {a3 : Int32} {a4 : Int32} {u : gg_M}  {G : gg_T} {Q : Int32 → gg_M → Prop} (hG : gg_Cl none cX11_put 6 RX11 (some .int) 3 (gg_eI Q) G)  (h : w_X11_put a1 a2 a3 a4 u  Q)   : G 0 [some (.ref 1), some (.int a1), some (.int a2), some (.int a3), some (.int a4), none] [] u := by
  unfold w_X11_put at h
  refine gg_iload_n hG dX11_put_0 rfl rfl ?_
  refine gg_xs (As := [.int a1]) (st := []) hG dX11_put_1 ml_RX11_129 Y_X11_isSheet YS_X11_isSheet (mt_X11_isSheet h) rfl (by decide) (Nat.le_of_ble_eq_true rfl) rfl (gg_ki (fun v2 u1 h => ?_))
  refine gg_if_eq (tgt := 16) hG dX11_put_4 (by decide) (fun c3 => ?_) (fun c3 => ?_)
  · replace h := h.1 c3
    refine gg_mk hG [false, false, false, false, false, false] rfl ?_
    exact m_X11_put_c16 hG h
  · replace h := h.2 c3
    refine gg_iload_n hG dX11_put_7 rfl rfl ?_
    refine gg_iconst (v := 0) hG dX11_put_8 (by decide) ?_
    refine gg_iconst (v := 2) hG dX11_put_9 (by decide) ?_
    refine gg_xs (As := [.int a2, .int 0, .int 2]) (st := []) hG dX11_put_10 ml_RX11_68 Y_X11_in YS_X11_in (mt_X11_in h) rfl (by decide) (Nat.le_of_ble_eq_true rfl) rfl (gg_ki (fun v5 u4 h => ?_))
    refine gg_if_ne (tgt := 19) hG dX11_put_13 (by decide) (fun c6 => ?_) (fun c6 => ?_)
    · replace h := h.1 c6
      refine gg_aload_n hG dX11_put_19 rfl rfl ?_
      refine gg_iload_n hG dX11_put_20 rfl rfl ?_
      refine gg_iload_n hG dX11_put_21 rfl rfl ?_
      refine gg_iload_n hG dX11_put_22 rfl rfl ?_
      refine gg_xv (As := [.int a1, .int a2, .int a3]) (st := []) hG dX11_put_23 ml_RX11_248 Y_X11_lacks YV_X11_lacks (by decide) ⟨_, rfl, rfl⟩ (mt_X11_lacks h) rfl (by decide) (Nat.le_of_ble_eq_true rfl) rfl (gg_ki (fun v8 u7 h => ?_))
      refine gg_istore (L1 := [some (.ref 1), some (.int a1), some (.int a2), some (.int a3), some (.int a4), some (.int v8)]) hG dX11_put_26 (by decide) rfl ?_
      refine gg_iload hG dX11_put_28 rfl ?_
      refine gg_if_le (tgt := 40) hG dX11_put_30 (by decide) (fun c9 => ?_) (fun c9 => ?_)
      · replace h := h.1 c9
        refine gg_aload_n hG dX11_put_40 rfl rfl ?_
        refine gg_iload_n hG dX11_put_41 rfl rfl ?_
        refine gg_iload_n hG dX11_put_42 rfl rfl ?_
        refine gg_iload hG dX11_put_43 rfl ?_
        refine gg_xv (As := [.int a1, .int a3, .int a4]) (st := []) hG dX11_put_45 ml_RX11_251 Y_X11_keep YV_X11_keep (by decide) ⟨_, rfl, rfl⟩ (mt_X11_keep h) rfl (by decide) (Nat.le_of_ble_eq_true rfl) rfl (gg_kv (fun u10 h => ?_))
        refine gg_iconst (v := 1) hG dX11_put_48 (by decide) ?_
        exact gg_iret hG dX11_put_49 rfl rfl ⟨_, rfl, h⟩
      · replace h := h.2 c9
        refine gg_aload_n hG dX11_put_33 rfl rfl ?_
        refine gg_iload hG dX11_put_34 rfl ?_
        refine gg_xv (As := [.int v8]) (st := []) hG dX11_put_36 ml_RX11_132 Y_X11_meets YV_X11_meets (by decide) ⟨_, rfl, rfl⟩ (mt_X11_meets h) rfl (by decide) (Nat.le_of_ble_eq_true rfl) rfl (gg_ki (fun v12 u11 h => ?_))
        exact gg_iret hG dX11_put_39 rfl rfl ⟨_, rfl, h⟩
    · replace h := h.2 c6
      refine gg_mk hG [false, false, false, false, false, false] rfl ?_
      exact m_X11_put_c16 hG h
theorem mt_X11_put {a1 : Int32} {a2 : Int32} {a3 : Int32} {a4 : Int32}  {u : gg_M} {Q : Int32 → gg_M → Prop} (h : w_X11_put a1 a2 a3 a4 u Q) : gg_Mt 3 yX11_put cX11_put 6 (some .int) [.ref 1, .int a1, .int a2, .int a3, .int a4] u (gg_eI Q) :=
  gg_intro (own := RX11) (by decide +kernel) rfl rfl (Nat.le_of_ble_eq_true rfl) (fun G hG => m_X11_put hG  h)
/-! X11_get -/
def w_X11_get_c16  (u : gg_M)  (Q : Int32 → gg_M → Prop) : Prop :=
  Q (-2147483648) u
set_option maxRecDepth 10000 in
theorem m_X11_get_c16  {u : gg_M}  {G : gg_T} {Q : Int32 → gg_M → Prop} (hG : gg_Cl none cX11_get 5 RX11 (some .int) 3 (gg_eI Q) G)  (h : w_X11_get_c16  u  Q)   : G 16 [none, none, none, none, none] [] u := by
  unfold w_X11_get_c16 at h
  refine gg_ldc hG dX11_get_16 fc_RX11_254 ?_
  exact gg_iret hG dX11_get_18 rfl rfl ⟨_, rfl, h⟩
def w_X11_get (a1 : Int32) (a2 : Int32) (a3 : Int32) (u : gg_M)  (Q : Int32 → gg_M → Prop) : Prop :=
  w_X11_isSheet a1 u (fun v2 u1 =>
  (v2 = 0 →
   w_X11_get_c16 u1 Q) ∧
  (¬ v2 = 0 →
   w_X11_in a2 0 2 u1 (fun v5 u4 =>
   (¬ v5 = 0 →
    w_X11_lacks a1 a2 a3 u4 (fun v8 u7 =>
    (v8 ≤ 0 →
     vp_in (((48 : Int32) * a1) + a3) 192 ∧
     Q (u7.1 63 ((((48 : Int32) * a1) + a3).toNatClampNeg)) u7) ∧
    (¬ v8 ≤ 0 →
     ∀ u11 : gg_M, u11 = gg_wI u7 1 24 v8 →
     Q (-2147483648) u11))) ∧
   (v5 = 0 →
    w_X11_get_c16 u4 Q))))
set_option maxRecDepth 10000 in
theorem m_X11_get {a1 : Int32} {a2 : Int32} {a3 : Int32} {u : gg_M}  {G : gg_T} {Q : Int32 → gg_M → Prop} (hG : gg_Cl none cX11_get 5 RX11 (some .int) 3 (gg_eI Q) G)  (h : w_X11_get a1 a2 a3 u  Q)   : G 0 [some (.ref 1), some (.int a1), some (.int a2), some (.int a3), none] [] u := by
  unfold w_X11_get at h
  refine gg_iload_n hG dX11_get_0 rfl rfl ?_
  refine gg_xs (As := [.int a1]) (st := []) hG dX11_get_1 ml_RX11_129 Y_X11_isSheet YS_X11_isSheet (mt_X11_isSheet h) rfl (by decide) (Nat.le_of_ble_eq_true rfl) rfl (gg_ki (fun v2 u1 h => ?_))
  refine gg_if_eq (tgt := 16) hG dX11_get_4 (by decide) (fun c3 => ?_) (fun c3 => ?_)
  · replace h := h.1 c3
    refine gg_mk hG [false, false, false, false, false] rfl ?_
    exact m_X11_get_c16 hG h
  · replace h := h.2 c3
    refine gg_iload_n hG dX11_get_7 rfl rfl ?_
    refine gg_iconst (v := 0) hG dX11_get_8 (by decide) ?_
    refine gg_iconst (v := 2) hG dX11_get_9 (by decide) ?_
    refine gg_xs (As := [.int a2, .int 0, .int 2]) (st := []) hG dX11_get_10 ml_RX11_68 Y_X11_in YS_X11_in (mt_X11_in h) rfl (by decide) (Nat.le_of_ble_eq_true rfl) rfl (gg_ki (fun v5 u4 h => ?_))
    refine gg_if_ne (tgt := 19) hG dX11_get_13 (by decide) (fun c6 => ?_) (fun c6 => ?_)
    · replace h := h.1 c6
      refine gg_aload_n hG dX11_get_19 rfl rfl ?_
      refine gg_iload_n hG dX11_get_20 rfl rfl ?_
      refine gg_iload_n hG dX11_get_21 rfl rfl ?_
      refine gg_iload_n hG dX11_get_22 rfl rfl ?_
      refine gg_xv (As := [.int a1, .int a2, .int a3]) (st := []) hG dX11_get_23 ml_RX11_248 Y_X11_lacks YV_X11_lacks (by decide) ⟨_, rfl, rfl⟩ (mt_X11_lacks h) rfl (by decide) (Nat.le_of_ble_eq_true rfl) rfl (gg_ki (fun v8 u7 h => ?_))
      refine gg_istore (L1 := [some (.ref 1), some (.int a1), some (.int a2), some (.int a3), some (.int v8)]) hG dX11_get_26 (by decide) rfl ?_
      refine gg_iload hG dX11_get_28 rfl ?_
      refine gg_if_le (tgt := 42) hG dX11_get_30 (by decide) (fun c9 => ?_) (fun c9 => ?_)
      · replace h := h.1 c9
        refine gg_aload_n hG dX11_get_42 rfl rfl ?_
        refine gg_get (v := .ref 63) hG dX11_get_43 (by decide) rfl fl_RX11_60 rfl ?_
        refine gg_bipush (v := 48) hG dX11_get_46 (by decide) ?_
        refine gg_iload_n hG dX11_get_48 rfl rfl ?_
        refine gg_imul hG dX11_get_49 ?_
        refine gg_iload_n hG dX11_get_50 rfl rfl ?_
        refine gg_iadd hG dX11_get_51 ?_
        obtain ⟨h10, h⟩ := h
        refine gg_iald (j := (((48 : Int32) * a1) + a3).toNatClampNeg) hG dX11_get_52 (by decide) rfl h10 rfl ?_
        exact gg_iret hG dX11_get_53 rfl rfl ⟨_, rfl, h⟩
      · replace h := h.2 c9
        refine gg_aload_n hG dX11_get_33 rfl rfl ?_
        refine gg_iload hG dX11_get_34 rfl ?_
        refine gg_putI hG dX11_get_36 (by decide) rfl fp_RX11_245 rfl rfl rfl ?_
        refine gg_nu (fun u11 eu11 => ?_)
        replace h := h u11 eu11
        refine gg_ldc hG dX11_get_39 fc_RX11_254 ?_
        exact gg_iret hG dX11_get_41 rfl rfl ⟨_, rfl, h⟩
    · replace h := h.2 c6
      refine gg_mk hG [false, false, false, false, false] rfl ?_
      exact m_X11_get_c16 hG h
theorem mt_X11_get {a1 : Int32} {a2 : Int32} {a3 : Int32}  {u : gg_M} {Q : Int32 → gg_M → Prop} (h : w_X11_get a1 a2 a3 u Q) : gg_Mt 3 yX11_get cX11_get 5 (some .int) [.ref 1, .int a1, .int a2, .int a3] u (gg_eI Q) :=
  gg_intro (own := RX11) (by decide +kernel) rfl rfl (Nat.le_of_ble_eq_true rfl) (fun G hG => m_X11_get hG  h)
/-! X11_copy -/
def b_X11_copy_c157 (a3 : Int32) (a4 : Int32) (a5 : Int32) (a6 : Int32) (u : gg_M)  (k157 : Int32 × gg_M → Prop) (Q : Int32 → gg_M → Prop) : Prop :=
  (a5 ≤ a6 →
   Q 1 u) ∧
  (¬ a5 ≤ a6 →
   vp_in a6 48 ∧
   vp_in ((((48 : Int32) * a3) + a4) + a6) 192 ∧
   ∀ u4 : gg_M, u4 = gg_wI u 63 (((((48 : Int32) * a3) + a4) + a6).toNatClampNeg) (u.1 64 a6.toNatClampNeg) →
   k157 ((a6 + 1), u4))
set_option maxRecDepth 10000 in
theorem mb_X11_copy_c157 {a3 : Int32} {a4 : Int32} {a5 : Int32} {a6 : Int32} {u : gg_M}  {k157 : Int32 × gg_M → Prop} {G : gg_T} {Q : Int32 → gg_M → Prop} (hG : gg_Cl none cX11_copy 7 RX11 (some .int) 3 (gg_eI Q) G)  (h : b_X11_copy_c157 a3 a4 a5 a6 u k157 Q)   (hk157 : ∀ s : Int32 × gg_M, k157 s → G 157 [some (.ref 1), none, none, some (.int a3), some (.int a4), some (.int a5), some (.int s.1)] [] s.2) : G 157 [some (.ref 1), none, none, some (.int a3), some (.int a4), some (.int a5), some (.int a6)] [] u := by
  unfold b_X11_copy_c157 at h
  refine gg_iload hG dX11_copy_157 rfl ?_
  refine gg_iload hG dX11_copy_159 rfl ?_
  refine gg_ic_ge (tgt := 192) hG dX11_copy_161 (by decide) (fun c1 => ?_) (fun c1 => ?_)
  · replace h := h.1 c1
    refine gg_iconst (v := 1) hG dX11_copy_192 (by decide) ?_
    exact gg_iret hG dX11_copy_193 rfl rfl ⟨_, rfl, h⟩
  · replace h := h.2 c1
    refine gg_aload_n hG dX11_copy_164 rfl rfl ?_
    refine gg_get (v := .ref 63) hG dX11_copy_165 (by decide) rfl fl_RX11_60 rfl ?_
    refine gg_bipush (v := 48) hG dX11_copy_168 (by decide) ?_
    refine gg_iload_n hG dX11_copy_170 rfl rfl ?_
    refine gg_imul hG dX11_copy_171 ?_
    refine gg_iload hG dX11_copy_172 rfl ?_
    refine gg_iadd hG dX11_copy_174 ?_
    refine gg_iload hG dX11_copy_175 rfl ?_
    refine gg_iadd hG dX11_copy_177 ?_
    refine gg_aload_n hG dX11_copy_178 rfl rfl ?_
    refine gg_get (v := .ref 64) hG dX11_copy_179 (by decide) rfl fl_RX11_63 rfl ?_
    refine gg_iload hG dX11_copy_182 rfl ?_
    obtain ⟨h2, h⟩ := h
    refine gg_iald (j := a6.toNatClampNeg) hG dX11_copy_184 (by decide) rfl h2 rfl ?_
    obtain ⟨h3, h⟩ := h
    refine gg_iast (j := ((((48 : Int32) * a3) + a4) + a6).toNatClampNeg) hG dX11_copy_185 (by decide) rfl h3 rfl ?_
    refine gg_nu (fun u4 eu4 => ?_)
    replace h := h u4 eu4
    refine gg_iinc (v := (a6 + 1)) (L1 := [some (.ref 1), none, none, some (.int a3), some (.int a4), some (.int a5), some (.int (a6 + 1))]) hG dX11_copy_186 rfl rfl (by decide) rfl ?_
    refine gg_goto (tgt := 157) hG dX11_copy_189 (by decide) ?_
    exact hk157 _ h
def w_X11_copy_c157 (a3 : Int32) (a4 : Int32) (a5 : Int32) (a6 : Int32) (u : gg_M)  (Q : Int32 → gg_M → Prop) : Prop :=
  gg_loop (fun (s : Int32 × gg_M) k157 => b_X11_copy_c157 a3 a4 a5 s.1 s.2  k157 Q) (a6, u)
set_option maxRecDepth 10000 in
theorem m_X11_copy_c157 {a3 : Int32} {a4 : Int32} {a5 : Int32} {a6 : Int32} {u : gg_M}  {G : gg_T} {Q : Int32 → gg_M → Prop} (hG : gg_Cl none cX11_copy 7 RX11 (some .int) 3 (gg_eI Q) G)  (h : w_X11_copy_c157 a3 a4 a5 a6 u  Q)   : G 157 [some (.ref 1), none, none, some (.int a3), some (.int a4), some (.int a5), some (.int a6)] [] u :=
  gg_loop_use (P := fun s : Int32 × gg_M => G 157 [some (.ref 1), none, none, some (.int a3), some (.int a4), some (.int a5), some (.int s.1)] [] s.2) h (fun s rc hb hr => mb_X11_copy_c157 hG  hb   hr)
def b_X11_copy_c120 (a1 : Int32) (a2 : Int32) (a3 : Int32) (a4 : Int32) (a5 : Int32) (a6 : Int32) (u : gg_M)  (k120 : Int32 × gg_M → Prop) (Q : Int32 → gg_M → Prop) : Prop :=
  (a5 ≤ a6 →
   w_X11_copy_c157 a3 a4 a5 0 u Q) ∧
  (¬ a5 ≤ a6 →
   vp_in ((((48 : Int32) * a1) + a2) + a6) 192 ∧
   vp_in a6 48 ∧
   ∀ u8 : gg_M, u8 = gg_wI u 64 a6.toNatClampNeg (u.1 63 (((((48 : Int32) * a1) + a2) + a6).toNatClampNeg)) →
   k120 ((a6 + 1), u8))
set_option maxRecDepth 10000 in
theorem mb_X11_copy_c120 {a1 : Int32} {a2 : Int32} {a3 : Int32} {a4 : Int32} {a5 : Int32} {a6 : Int32} {u : gg_M}  {k120 : Int32 × gg_M → Prop} {G : gg_T} {Q : Int32 → gg_M → Prop} (hG : gg_Cl none cX11_copy 7 RX11 (some .int) 3 (gg_eI Q) G)  (h : b_X11_copy_c120 a1 a2 a3 a4 a5 a6 u k120 Q)   (hk120 : ∀ s : Int32 × gg_M, k120 s → G 120 [some (.ref 1), some (.int a1), some (.int a2), some (.int a3), some (.int a4), some (.int a5), some (.int s.1)] [] s.2) : G 120 [some (.ref 1), some (.int a1), some (.int a2), some (.int a3), some (.int a4), some (.int a5), some (.int a6)] [] u := by
  unfold b_X11_copy_c120 at h
  refine gg_iload hG dX11_copy_120 rfl ?_
  refine gg_iload hG dX11_copy_122 rfl ?_
  refine gg_ic_ge (tgt := 154) hG dX11_copy_124 (by decide) (fun c5 => ?_) (fun c5 => ?_)
  · replace h := h.1 c5
    refine gg_iconst (v := 0) hG dX11_copy_154 (by decide) ?_
    refine gg_istore (L1 := [some (.ref 1), some (.int a1), some (.int a2), some (.int a3), some (.int a4), some (.int a5), some (.int 0)]) hG dX11_copy_155 (by decide) rfl ?_
    refine gg_mk hG [true, false, false, true, true, true, true] rfl ?_
    exact m_X11_copy_c157 hG h
  · replace h := h.2 c5
    refine gg_aload_n hG dX11_copy_127 rfl rfl ?_
    refine gg_get (v := .ref 64) hG dX11_copy_128 (by decide) rfl fl_RX11_63 rfl ?_
    refine gg_iload hG dX11_copy_131 rfl ?_
    refine gg_aload_n hG dX11_copy_133 rfl rfl ?_
    refine gg_get (v := .ref 63) hG dX11_copy_134 (by decide) rfl fl_RX11_60 rfl ?_
    refine gg_bipush (v := 48) hG dX11_copy_137 (by decide) ?_
    refine gg_iload_n hG dX11_copy_139 rfl rfl ?_
    refine gg_imul hG dX11_copy_140 ?_
    refine gg_iload_n hG dX11_copy_141 rfl rfl ?_
    refine gg_iadd hG dX11_copy_142 ?_
    refine gg_iload hG dX11_copy_143 rfl ?_
    refine gg_iadd hG dX11_copy_145 ?_
    obtain ⟨h6, h⟩ := h
    refine gg_iald (j := ((((48 : Int32) * a1) + a2) + a6).toNatClampNeg) hG dX11_copy_146 (by decide) rfl h6 rfl ?_
    obtain ⟨h7, h⟩ := h
    refine gg_iast (j := a6.toNatClampNeg) hG dX11_copy_147 (by decide) rfl h7 rfl ?_
    refine gg_nu (fun u8 eu8 => ?_)
    replace h := h u8 eu8
    refine gg_iinc (v := (a6 + 1)) (L1 := [some (.ref 1), some (.int a1), some (.int a2), some (.int a3), some (.int a4), some (.int a5), some (.int (a6 + 1))]) hG dX11_copy_148 rfl rfl (by decide) rfl ?_
    refine gg_goto (tgt := 120) hG dX11_copy_151 (by decide) ?_
    exact hk120 _ h
def w_X11_copy_c120 (a1 : Int32) (a2 : Int32) (a3 : Int32) (a4 : Int32) (a5 : Int32) (a6 : Int32) (u : gg_M)  (Q : Int32 → gg_M → Prop) : Prop :=
  gg_loop (fun (s : Int32 × gg_M) k120 => b_X11_copy_c120 a1 a2 a3 a4 a5 s.1 s.2  k120 Q) (a6, u)
set_option maxRecDepth 10000 in
theorem m_X11_copy_c120 {a1 : Int32} {a2 : Int32} {a3 : Int32} {a4 : Int32} {a5 : Int32} {a6 : Int32} {u : gg_M}  {G : gg_T} {Q : Int32 → gg_M → Prop} (hG : gg_Cl none cX11_copy 7 RX11 (some .int) 3 (gg_eI Q) G)  (h : w_X11_copy_c120 a1 a2 a3 a4 a5 a6 u  Q)   : G 120 [some (.ref 1), some (.int a1), some (.int a2), some (.int a3), some (.int a4), some (.int a5), some (.int a6)] [] u :=
  gg_loop_use (P := fun s : Int32 × gg_M => G 120 [some (.ref 1), some (.int a1), some (.int a2), some (.int a3), some (.int a4), some (.int a5), some (.int s.1)] [] s.2) h (fun s rc hb hr => mb_X11_copy_c120 hG  hb   hr)
def w_X11_copy_c111  (u : gg_M)  (Q : Int32 → gg_M → Prop) : Prop :=
  w_X11_meets 2 u (fun v10 u9 =>
  Q v10 u9)
set_option maxRecDepth 10000 in
theorem m_X11_copy_c111  {u : gg_M}  {G : gg_T} {Q : Int32 → gg_M → Prop} (hG : gg_Cl none cX11_copy 7 RX11 (some .int) 3 (gg_eI Q) G)  (h : w_X11_copy_c111  u  Q)   : G 111 [some (.ref 1), none, none, none, none, none, none] [] u := by
  unfold w_X11_copy_c111 at h
  refine gg_aload_n hG dX11_copy_111 rfl rfl ?_
  refine gg_iconst (v := 2) hG dX11_copy_112 (by decide) ?_
  refine gg_xv (As := [.int 2]) (st := []) hG dX11_copy_113 ml_RX11_132 Y_X11_meets YV_X11_meets (by decide) ⟨_, rfl, rfl⟩ (mt_X11_meets h) rfl (by decide) (Nat.le_of_ble_eq_true rfl) rfl (gg_ki (fun v10 u9 h => ?_))
  exact gg_iret hG dX11_copy_116 rfl rfl ⟨_, rfl, h⟩
def w_X11_copy_c35  (u : gg_M)  (Q : Int32 → gg_M → Prop) : Prop :=
  w_X11_meets 1 u (fun v12 u11 =>
  Q v12 u11)
set_option maxRecDepth 10000 in
theorem m_X11_copy_c35  {u : gg_M}  {G : gg_T} {Q : Int32 → gg_M → Prop} (hG : gg_Cl none cX11_copy 7 RX11 (some .int) 3 (gg_eI Q) G)  (h : w_X11_copy_c35  u  Q)   : G 35 [some (.ref 1), none, none, none, none, none, none] [] u := by
  unfold w_X11_copy_c35 at h
  refine gg_aload_n hG dX11_copy_35 rfl rfl ?_
  refine gg_iconst (v := 1) hG dX11_copy_36 (by decide) ?_
  refine gg_xv (As := [.int 1]) (st := []) hG dX11_copy_37 ml_RX11_132 Y_X11_meets YV_X11_meets (by decide) ⟨_, rfl, rfl⟩ (mt_X11_meets h) rfl (by decide) (Nat.le_of_ble_eq_true rfl) rfl (gg_ki (fun v12 u11 h => ?_))
  exact gg_iret hG dX11_copy_40 rfl rfl ⟨_, rfl, h⟩
def w_X11_copy_c14  (u : gg_M)  (Q : Int32 → gg_M → Prop) : Prop :=
  Q (-2) u
set_option maxRecDepth 10000 in
theorem m_X11_copy_c14  {u : gg_M}  {G : gg_T} {Q : Int32 → gg_M → Prop} (hG : gg_Cl none cX11_copy 7 RX11 (some .int) 3 (gg_eI Q) G)  (h : w_X11_copy_c14  u  Q)   : G 14 [none, none, none, none, none, none, none] [] u := by
  unfold w_X11_copy_c14 at h
  refine gg_bipush (v := (-2)) hG dX11_copy_14 (by decide) ?_
  exact gg_iret hG dX11_copy_16 rfl rfl ⟨_, rfl, h⟩
def w_X11_copy (a1 : Int32) (a2 : Int32) (a3 : Int32) (a4 : Int32) (a5 : Int32) (u : gg_M)  (Q : Int32 → gg_M → Prop) : Prop :=
  w_X11_isSheet a1 u (fun v14 u13 =>
  (v14 = 0 →
   w_X11_copy_c14 u13 Q) ∧
  (¬ v14 = 0 →
   w_X11_isSheet a3 u13 (fun v17 u16 =>
   (¬ v17 = 0 →
    vp_in a1 4 ∧
    ((u16.1 60 a1.toNatClampNeg) = 0 →
     w_X11_copy_c35 u16 Q) ∧
    (¬ (u16.1 60 a1.toNatClampNeg) = 0 →
     vp_in a3 4 ∧
     (¬ (u16.1 60 a3.toNatClampNeg) = 0 →
      vp_in a1 4 ∧
      vp_in a3 4 ∧
      ((u16.1 61 a1.toNatClampNeg) = (u16.1 61 a3.toNatClampNeg) →
       (a2 < 0 →
        w_X11_copy_c111 u16 Q) ∧
       (¬ a2 < 0 →
        (a4 < 0 →
         w_X11_copy_c111 u16 Q) ∧
        (¬ a4 < 0 →
         (a5 < 0 →
          w_X11_copy_c111 u16 Q) ∧
         (¬ a5 < 0 →
          vp_in a1 4 ∧
          (0 < (lg_cmp (a2.toInt64 + a5.toInt64) (u16.1 62 a1.toNatClampNeg).toInt64) →
           w_X11_copy_c111 u16 Q) ∧
          (¬ 0 < (lg_cmp (a2.toInt64 + a5.toInt64) (u16.1 62 a1.toNatClampNeg).toInt64) →
           vp_in a3 4 ∧
           ((lg_cmp (a4.toInt64 + a5.toInt64) (u16.1 62 a3.toNatClampNeg).toInt64) ≤ 0 →
            w_X11_copy_c120 a1 a2 a3 a4 a5 0 u16 Q) ∧
           (¬ (lg_cmp (a4.toInt64 + a5.toInt64) (u16.1 62 a3.toNatClampNeg).toInt64) ≤ 0 →
            w_X11_copy_c111 u16 Q)))))) ∧
      (¬ (u16.1 61 a1.toNatClampNeg) = (u16.1 61 a3.toNatClampNeg) →
       w_X11_meets 4 u16 (fun v34 u33 =>
       Q v34 u33))) ∧
     ((u16.1 60 a3.toNatClampNeg) = 0 →
      w_X11_copy_c35 u16 Q))) ∧
   (v17 = 0 →
    w_X11_copy_c14 u16 Q))))
set_option maxRecDepth 10000 in
theorem m_X11_copy {a1 : Int32} {a2 : Int32} {a3 : Int32} {a4 : Int32} {a5 : Int32} {u : gg_M}  {G : gg_T} {Q : Int32 → gg_M → Prop} (hG : gg_Cl none cX11_copy 7 RX11 (some .int) 3 (gg_eI Q) G)  (h : w_X11_copy a1 a2 a3 a4 a5 u  Q)   : G 0 [some (.ref 1), some (.int a1), some (.int a2), some (.int a3), some (.int a4), some (.int a5), none] [] u := by
  unfold w_X11_copy at h
  refine gg_iload_n hG dX11_copy_0 rfl rfl ?_
  refine gg_xs (As := [.int a1]) (st := []) hG dX11_copy_1 ml_RX11_129 Y_X11_isSheet YS_X11_isSheet (mt_X11_isSheet h) rfl (by decide) (Nat.le_of_ble_eq_true rfl) rfl (gg_ki (fun v14 u13 h => ?_))
  refine gg_if_eq (tgt := 14) hG dX11_copy_4 (by decide) (fun c15 => ?_) (fun c15 => ?_)
  · replace h := h.1 c15
    refine gg_mk hG [false, false, false, false, false, false, false] rfl ?_
    exact m_X11_copy_c14 hG h
  · replace h := h.2 c15
    refine gg_iload_n hG dX11_copy_7 rfl rfl ?_
    refine gg_xs (As := [.int a3]) (st := []) hG dX11_copy_8 ml_RX11_129 Y_X11_isSheet YS_X11_isSheet (mt_X11_isSheet h) rfl (by decide) (Nat.le_of_ble_eq_true rfl) rfl (gg_ki (fun v17 u16 h => ?_))
    refine gg_if_ne (tgt := 17) hG dX11_copy_11 (by decide) (fun c18 => ?_) (fun c18 => ?_)
    · replace h := h.1 c18
      refine gg_aload_n hG dX11_copy_17 rfl rfl ?_
      refine gg_get (v := .ref 60) hG dX11_copy_18 (by decide) rfl fl_RX11_50 rfl ?_
      refine gg_iload_n hG dX11_copy_21 rfl rfl ?_
      obtain ⟨h19, h⟩ := h
      refine gg_zald (j := a1.toNatClampNeg) hG dX11_copy_22 (by decide) rfl h19 rfl ?_
      refine gg_if_eq (tgt := 35) hG dX11_copy_23 (by decide) (fun c20 => ?_) (fun c20 => ?_)
      · replace h := h.1 c20
        refine gg_mk hG [true, false, false, false, false, false, false] rfl ?_
        exact m_X11_copy_c35 hG h
      · replace h := h.2 c20
        refine gg_aload_n hG dX11_copy_26 rfl rfl ?_
        refine gg_get (v := .ref 60) hG dX11_copy_27 (by decide) rfl fl_RX11_50 rfl ?_
        refine gg_iload_n hG dX11_copy_30 rfl rfl ?_
        obtain ⟨h21, h⟩ := h
        refine gg_zald (j := a3.toNatClampNeg) hG dX11_copy_31 (by decide) rfl h21 rfl ?_
        refine gg_if_ne (tgt := 41) hG dX11_copy_32 (by decide) (fun c22 => ?_) (fun c22 => ?_)
        · replace h := h.1 c22
          refine gg_aload_n hG dX11_copy_41 rfl rfl ?_
          refine gg_get (v := .ref 61) hG dX11_copy_42 (by decide) rfl fl_RX11_54 rfl ?_
          refine gg_iload_n hG dX11_copy_45 rfl rfl ?_
          obtain ⟨h23, h⟩ := h
          refine gg_iald (j := a1.toNatClampNeg) hG dX11_copy_46 (by decide) rfl h23 rfl ?_
          refine gg_aload_n hG dX11_copy_47 rfl rfl ?_
          refine gg_get (v := .ref 61) hG dX11_copy_48 (by decide) rfl fl_RX11_54 rfl ?_
          refine gg_iload_n hG dX11_copy_51 rfl rfl ?_
          obtain ⟨h24, h⟩ := h
          refine gg_iald (j := a3.toNatClampNeg) hG dX11_copy_52 (by decide) rfl h24 rfl ?_
          refine gg_ic_eq (tgt := 62) hG dX11_copy_53 (by decide) (fun c25 => ?_) (fun c25 => ?_)
          · replace h := h.1 c25
            refine gg_iload_n hG dX11_copy_62 rfl rfl ?_
            refine gg_if_lt (tgt := 111) hG dX11_copy_63 (by decide) (fun c26 => ?_) (fun c26 => ?_)
            · replace h := h.1 c26
              refine gg_mk hG [true, false, false, false, false, false, false] rfl ?_
              exact m_X11_copy_c111 hG h
            · replace h := h.2 c26
              refine gg_iload hG dX11_copy_66 rfl ?_
              refine gg_if_lt (tgt := 111) hG dX11_copy_68 (by decide) (fun c27 => ?_) (fun c27 => ?_)
              · replace h := h.1 c27
                refine gg_mk hG [true, false, false, false, false, false, false] rfl ?_
                exact m_X11_copy_c111 hG h
              · replace h := h.2 c27
                refine gg_iload hG dX11_copy_71 rfl ?_
                refine gg_if_lt (tgt := 111) hG dX11_copy_73 (by decide) (fun c28 => ?_) (fun c28 => ?_)
                · replace h := h.1 c28
                  refine gg_mk hG [true, false, false, false, false, false, false] rfl ?_
                  exact m_X11_copy_c111 hG h
                · replace h := h.2 c28
                  refine gg_iload_n hG dX11_copy_76 rfl rfl ?_
                  refine gg_i2l hG dX11_copy_77 ?_
                  refine gg_iload hG dX11_copy_78 rfl ?_
                  refine gg_i2l hG dX11_copy_80 ?_
                  refine gg_ladd hG dX11_copy_81 ?_
                  refine gg_aload_n hG dX11_copy_82 rfl rfl ?_
                  refine gg_get (v := .ref 62) hG dX11_copy_83 (by decide) rfl fl_RX11_57 rfl ?_
                  refine gg_iload_n hG dX11_copy_86 rfl rfl ?_
                  obtain ⟨h29, h⟩ := h
                  refine gg_iald (j := a1.toNatClampNeg) hG dX11_copy_87 (by decide) rfl h29 rfl ?_
                  refine gg_i2l hG dX11_copy_88 ?_
                  refine gg_lcmp hG dX11_copy_89 ?_
                  refine gg_if_gt (tgt := 111) hG dX11_copy_90 (by decide) (fun c30 => ?_) (fun c30 => ?_)
                  · replace h := h.1 c30
                    refine gg_mk hG [true, false, false, false, false, false, false] rfl ?_
                    exact m_X11_copy_c111 hG h
                  · replace h := h.2 c30
                    refine gg_iload hG dX11_copy_93 rfl ?_
                    refine gg_i2l hG dX11_copy_95 ?_
                    refine gg_iload hG dX11_copy_96 rfl ?_
                    refine gg_i2l hG dX11_copy_98 ?_
                    refine gg_ladd hG dX11_copy_99 ?_
                    refine gg_aload_n hG dX11_copy_100 rfl rfl ?_
                    refine gg_get (v := .ref 62) hG dX11_copy_101 (by decide) rfl fl_RX11_57 rfl ?_
                    refine gg_iload_n hG dX11_copy_104 rfl rfl ?_
                    obtain ⟨h31, h⟩ := h
                    refine gg_iald (j := a3.toNatClampNeg) hG dX11_copy_105 (by decide) rfl h31 rfl ?_
                    refine gg_i2l hG dX11_copy_106 ?_
                    refine gg_lcmp hG dX11_copy_107 ?_
                    refine gg_if_le (tgt := 117) hG dX11_copy_108 (by decide) (fun c32 => ?_) (fun c32 => ?_)
                    · replace h := h.1 c32
                      refine gg_iconst (v := 0) hG dX11_copy_117 (by decide) ?_
                      refine gg_istore (L1 := [some (.ref 1), some (.int a1), some (.int a2), some (.int a3), some (.int a4), some (.int a5), some (.int 0)]) hG dX11_copy_118 (by decide) rfl ?_
                      exact m_X11_copy_c120 hG h
                    · replace h := h.2 c32
                      refine gg_mk hG [true, false, false, false, false, false, false] rfl ?_
                      exact m_X11_copy_c111 hG h
          · replace h := h.2 c25
            refine gg_aload_n hG dX11_copy_56 rfl rfl ?_
            refine gg_iconst (v := 4) hG dX11_copy_57 (by decide) ?_
            refine gg_xv (As := [.int 4]) (st := []) hG dX11_copy_58 ml_RX11_132 Y_X11_meets YV_X11_meets (by decide) ⟨_, rfl, rfl⟩ (mt_X11_meets h) rfl (by decide) (Nat.le_of_ble_eq_true rfl) rfl (gg_ki (fun v34 u33 h => ?_))
            exact gg_iret hG dX11_copy_61 rfl rfl ⟨_, rfl, h⟩
        · replace h := h.2 c22
          refine gg_mk hG [true, false, false, false, false, false, false] rfl ?_
          exact m_X11_copy_c35 hG h
    · replace h := h.2 c18
      refine gg_mk hG [false, false, false, false, false, false, false] rfl ?_
      exact m_X11_copy_c14 hG h
theorem mt_X11_copy {a1 : Int32} {a2 : Int32} {a3 : Int32} {a4 : Int32} {a5 : Int32}  {u : gg_M} {Q : Int32 → gg_M → Prop} (h : w_X11_copy a1 a2 a3 a4 a5 u Q) : gg_Mt 3 yX11_copy cX11_copy 7 (some .int) [.ref 1, .int a1, .int a2, .int a3, .int a4, .int a5] u (gg_eI Q) :=
  gg_intro (own := RX11) (by decide +kernel) rfl rfl (Nat.le_of_ble_eq_true rfl) (fun G hG => m_X11_copy hG  h)
/-! X11_write -/
def w_X11_write_c92 (a4 : Int32) (u : gg_M)  (Q : Int32 → gg_M → Prop) : Prop :=
  Q a4 u
set_option maxRecDepth 10000 in
theorem m_X11_write_c92 {a4 : Int32} {u : gg_M}  {G : gg_T} {Q : Int32 → gg_M → Prop} (hG : gg_Cl none cX11_write 5 RX11 (some .int) 4 (gg_eI Q) G)  (h : w_X11_write_c92 a4 u  Q)   : G 92 [none, none, none, none, some (.int a4)] [] u := by
  unfold w_X11_write_c92 at h
  refine gg_iload hG dX11_write_92 rfl ?_
  exact gg_iret hG dX11_write_94 rfl rfl ⟨_, rfl, h⟩
def b_X11_write_c46 (a1 : Int32) (a2 : Int32) (a4 : Int32) (u : gg_M)  (k46 : Int32 × gg_M → Prop) (Q : Int32 → gg_M → Prop) : Prop :=
  ((u.1 1 8) ≤ a4 →
   w_X11_write_c92 a4 u Q) ∧
  (¬ (u.1 1 8) ≤ a4 →
   vp_in a2 4 ∧
   ((u.1 62 a2.toNatClampNeg) ≤ a4 →
    w_X11_write_c92 a4 u Q) ∧
   (¬ (u.1 62 a2.toNatClampNeg) ≤ a4 →
    vp_in a4 24 ∧
    w_X11_does 1 a1 (u.1 53 a4.toNatClampNeg) u (fun v6 u5 =>
    w_X11_keep a2 a4 v6 u5 (fun u7 =>
    k46 ((a4 + 1), u7)))))
set_option maxRecDepth 10000 in
theorem mb_X11_write_c46 {a1 : Int32} {a2 : Int32} {a4 : Int32} {u : gg_M}  {k46 : Int32 × gg_M → Prop} {G : gg_T} {Q : Int32 → gg_M → Prop} (hG : gg_Cl none cX11_write 5 RX11 (some .int) 4 (gg_eI Q) G)  (h : b_X11_write_c46 a1 a2 a4 u k46 Q)   (hk46 : ∀ s : Int32 × gg_M, k46 s → G 46 [some (.ref 1), some (.int a1), some (.int a2), none, some (.int s.1)] [] s.2) : G 46 [some (.ref 1), some (.int a1), some (.int a2), none, some (.int a4)] [] u := by
  unfold b_X11_write_c46 at h
  refine gg_iload hG dX11_write_46 rfl ?_
  refine gg_aload_n hG dX11_write_48 rfl rfl ?_
  refine gg_get (v := .int (u.1 1 8)) hG dX11_write_49 (by decide) rfl fl_RX11_123 rfl ?_
  refine gg_ic_ge (tgt := 92) hG dX11_write_52 (by decide) (fun c1 => ?_) (fun c1 => ?_)
  · replace h := h.1 c1
    refine gg_mk hG [false, false, false, false, true] rfl ?_
    exact m_X11_write_c92 hG h
  · replace h := h.2 c1
    refine gg_iload hG dX11_write_55 rfl ?_
    refine gg_aload_n hG dX11_write_57 rfl rfl ?_
    refine gg_get (v := .ref 62) hG dX11_write_58 (by decide) rfl fl_RX11_57 rfl ?_
    refine gg_iload_n hG dX11_write_61 rfl rfl ?_
    obtain ⟨h2, h⟩ := h
    refine gg_iald (j := a2.toNatClampNeg) hG dX11_write_62 (by decide) rfl h2 rfl ?_
    refine gg_ic_ge (tgt := 92) hG dX11_write_63 (by decide) (fun c3 => ?_) (fun c3 => ?_)
    · replace h := h.1 c3
      refine gg_mk hG [false, false, false, false, true] rfl ?_
      exact m_X11_write_c92 hG h
    · replace h := h.2 c3
      refine gg_aload_n hG dX11_write_66 rfl rfl ?_
      refine gg_iload_n hG dX11_write_67 rfl rfl ?_
      refine gg_iload hG dX11_write_68 rfl ?_
      refine gg_aload_n hG dX11_write_70 rfl rfl ?_
      refine gg_iconst (v := 1) hG dX11_write_71 (by decide) ?_
      refine gg_iload_n hG dX11_write_72 rfl rfl ?_
      refine gg_aload_n hG dX11_write_73 rfl rfl ?_
      refine gg_get (v := .ref 53) hG dX11_write_74 (by decide) rfl fl_RX11_28 rfl ?_
      refine gg_iload hG dX11_write_77 rfl ?_
      obtain ⟨h4, h⟩ := h
      refine gg_iald (j := a4.toNatClampNeg) hG dX11_write_79 (by decide) rfl h4 rfl ?_
      refine gg_xv (As := [.int 1, .int a1, .int (u.1 53 a4.toNatClampNeg)]) (st := [.int a4, .int a2, .ref 1]) hG dX11_write_80 ml_RX11_143 Y_X11_does YV_X11_does (by decide) ⟨_, rfl, rfl⟩ (mt_X11_does h) rfl (by decide) (Nat.le_of_ble_eq_true rfl) rfl (gg_ki (fun v6 u5 h => ?_))
      refine gg_xv (As := [.int a2, .int a4, .int v6]) (st := []) hG dX11_write_83 ml_RX11_251 Y_X11_keep YV_X11_keep (by decide) ⟨_, rfl, rfl⟩ (mt_X11_keep h) rfl (by decide) (Nat.le_of_ble_eq_true rfl) rfl (gg_kv (fun u7 h => ?_))
      refine gg_iinc (v := (a4 + 1)) (L1 := [some (.ref 1), some (.int a1), some (.int a2), none, some (.int (a4 + 1))]) hG dX11_write_86 rfl rfl (by decide) rfl ?_
      refine gg_goto (tgt := 46) hG dX11_write_89 (by decide) ?_
      exact hk46 _ h
def w_X11_write_c46 (a1 : Int32) (a2 : Int32) (a4 : Int32) (u : gg_M)  (Q : Int32 → gg_M → Prop) : Prop :=
  gg_loop (fun (s : Int32 × gg_M) k46 => b_X11_write_c46 a1 a2 s.1 s.2  k46 Q) (a4, u)
set_option maxRecDepth 10000 in
theorem m_X11_write_c46 {a1 : Int32} {a2 : Int32} {a4 : Int32} {u : gg_M}  {G : gg_T} {Q : Int32 → gg_M → Prop} (hG : gg_Cl none cX11_write 5 RX11 (some .int) 4 (gg_eI Q) G)  (h : w_X11_write_c46 a1 a2 a4 u  Q)   : G 46 [some (.ref 1), some (.int a1), some (.int a2), none, some (.int a4)] [] u :=
  gg_loop_use (P := fun s : Int32 × gg_M => G 46 [some (.ref 1), some (.int a1), some (.int a2), none, some (.int s.1)] [] s.2) h (fun s rc hb hr => mb_X11_write_c46 hG  hb   hr)
def w_X11_write_c14  (u : gg_M)  (Q : Int32 → gg_M → Prop) : Prop :=
  Q (-2) u
set_option maxRecDepth 10000 in
theorem m_X11_write_c14  {u : gg_M}  {G : gg_T} {Q : Int32 → gg_M → Prop} (hG : gg_Cl none cX11_write 5 RX11 (some .int) 4 (gg_eI Q) G)  (h : w_X11_write_c14  u  Q)   : G 14 [none, none, none, none, none] [] u := by
  unfold w_X11_write_c14 at h
  refine gg_bipush (v := (-2)) hG dX11_write_14 (by decide) ?_
  exact gg_iret hG dX11_write_16 rfl rfl ⟨_, rfl, h⟩
def w_X11_write (a1 : Int32) (a2 : Int32) (u : gg_M)  (Q : Int32 → gg_M → Prop) : Prop :=
  w_X11_isSet a1 u (fun v9 u8 =>
  (v9 = 0 →
   w_X11_write_c14 u8 Q) ∧
  (¬ v9 = 0 →
   w_X11_isSheet a2 u8 (fun v12 u11 =>
   (¬ v12 = 0 →
    vp_in a2 4 ∧
    (¬ (u11.1 60 a2.toNatClampNeg) = 0 →
     w_X11_motorNow u11 (fun v17 u16 =>
     w_X11_begins 1 a1 u16 (fun u18 =>
     w_X11_write_c46 a1 a2 0 u18 Q))) ∧
    ((u11.1 60 a2.toNatClampNeg) = 0 →
     w_X11_meets 1 u11 (fun v20 u19 =>
     Q v20 u19))) ∧
   (v12 = 0 →
    w_X11_write_c14 u11 Q))))
set_option maxRecDepth 10000 in
theorem m_X11_write {a1 : Int32} {a2 : Int32} {u : gg_M}  {G : gg_T} {Q : Int32 → gg_M → Prop} (hG : gg_Cl none cX11_write 5 RX11 (some .int) 4 (gg_eI Q) G)  (h : w_X11_write a1 a2 u  Q)   : G 0 [some (.ref 1), some (.int a1), some (.int a2), none, none] [] u := by
  unfold w_X11_write at h
  refine gg_iload_n hG dX11_write_0 rfl rfl ?_
  refine gg_xs (As := [.int a1]) (st := []) hG dX11_write_1 ml_RX11_157 Y_X11_isSet YS_X11_isSet (mt_X11_isSet h) rfl (by decide) (Nat.le_of_ble_eq_true rfl) rfl (gg_ki (fun v9 u8 h => ?_))
  refine gg_if_eq (tgt := 14) hG dX11_write_4 (by decide) (fun c10 => ?_) (fun c10 => ?_)
  · replace h := h.1 c10
    refine gg_mk hG [false, false, false, false, false] rfl ?_
    exact m_X11_write_c14 hG h
  · replace h := h.2 c10
    refine gg_iload_n hG dX11_write_7 rfl rfl ?_
    refine gg_xs (As := [.int a2]) (st := []) hG dX11_write_8 ml_RX11_129 Y_X11_isSheet YS_X11_isSheet (mt_X11_isSheet h) rfl (by decide) (Nat.le_of_ble_eq_true rfl) rfl (gg_ki (fun v12 u11 h => ?_))
    refine gg_if_ne (tgt := 17) hG dX11_write_11 (by decide) (fun c13 => ?_) (fun c13 => ?_)
    · replace h := h.1 c13
      refine gg_aload_n hG dX11_write_17 rfl rfl ?_
      refine gg_get (v := .ref 60) hG dX11_write_18 (by decide) rfl fl_RX11_50 rfl ?_
      refine gg_iload_n hG dX11_write_21 rfl rfl ?_
      obtain ⟨h14, h⟩ := h
      refine gg_zald (j := a2.toNatClampNeg) hG dX11_write_22 (by decide) rfl h14 rfl ?_
      refine gg_if_ne (tgt := 32) hG dX11_write_23 (by decide) (fun c15 => ?_) (fun c15 => ?_)
      · replace h := h.1 c15
        refine gg_aload_n hG dX11_write_32 rfl rfl ?_
        refine gg_xv (As := []) (st := []) hG dX11_write_33 ml_RX11_104 Y_X11_motorNow YV_X11_motorNow (by decide) ⟨_, rfl, rfl⟩ (mt_X11_motorNow h) rfl (by decide) (Nat.le_of_ble_eq_true rfl) rfl (gg_ki (fun v17 u16 h => ?_))
        refine gg_istore_n (L1 := [some (.ref 1), some (.int a1), some (.int a2), some (.int v17), none]) hG dX11_write_36 rfl (by decide) rfl ?_
        refine gg_aload_n hG dX11_write_37 rfl rfl ?_
        refine gg_iconst (v := 1) hG dX11_write_38 (by decide) ?_
        refine gg_iload_n hG dX11_write_39 rfl rfl ?_
        refine gg_xv (As := [.int 1, .int a1]) (st := []) hG dX11_write_40 ml_RX11_139 Y_X11_begins YV_X11_begins (by decide) ⟨_, rfl, rfl⟩ (mt_X11_begins h) rfl (by decide) (Nat.le_of_ble_eq_true rfl) rfl (gg_kv (fun u18 h => ?_))
        refine gg_iconst (v := 0) hG dX11_write_43 (by decide) ?_
        refine gg_istore (L1 := [some (.ref 1), some (.int a1), some (.int a2), some (.int v17), some (.int 0)]) hG dX11_write_44 (by decide) rfl ?_
        refine gg_mk hG [true, true, true, false, true] rfl ?_
        exact m_X11_write_c46 hG h
      · replace h := h.2 c15
        refine gg_aload_n hG dX11_write_26 rfl rfl ?_
        refine gg_iconst (v := 1) hG dX11_write_27 (by decide) ?_
        refine gg_xv (As := [.int 1]) (st := []) hG dX11_write_28 ml_RX11_132 Y_X11_meets YV_X11_meets (by decide) ⟨_, rfl, rfl⟩ (mt_X11_meets h) rfl (by decide) (Nat.le_of_ble_eq_true rfl) rfl (gg_ki (fun v20 u19 h => ?_))
        exact gg_iret hG dX11_write_31 rfl rfl ⟨_, rfl, h⟩
    · replace h := h.2 c13
      refine gg_mk hG [false, false, false, false, false] rfl ?_
      exact m_X11_write_c14 hG h
theorem mt_X11_write {a1 : Int32} {a2 : Int32}  {u : gg_M} {Q : Int32 → gg_M → Prop} (h : w_X11_write a1 a2 u Q) : gg_Mt 4 yX11_write cX11_write 5 (some .int) [.ref 1, .int a1, .int a2] u (gg_eI Q) :=
  gg_intro (own := RX11) (by decide +kernel) rfl rfl (Nat.le_of_ble_eq_true rfl) (fun G hG => m_X11_write hG  h)
