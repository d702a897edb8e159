/-! X11_back -/
def w_X11_back  (u : gg_M)  (Q : Int32 → gg_M → Prop) : Prop :=
  (¬ (u.1 1 8) = 0 →
   ∀ u2 : gg_M, u2 = gg_wI u 1 8 ((u.1 1 8) - 1) →
   Q (u2.1 1 8) u2) ∧
  ((u.1 1 8) = 0 →
   Q (-3) u)
set_option maxRecDepth 10000 in
theorem m_X11_back  {u : gg_M}  {G : gg_T} {Q : Int32 → gg_M → Prop} (hG : gg_Cl none cX11_back 1 RX11 (some .int) 1 (gg_eI Q) G)  (h : w_X11_back  u  Q)   : G 0 [some (.ref 1)] [] u := by
  unfold w_X11_back at h
  refine gg_aload_n hG dX11_back_0 rfl rfl ?_
  refine gg_get (v := .int (u.1 1 8)) hG dX11_back_1 (by decide) rfl fl_RX11_123 rfl ?_
  refine gg_if_ne (tgt := 10) hG dX11_back_4 (by decide) (fun c1 => ?_) (fun c1 => ?_)
  · replace h := h.1 c1
    refine gg_aload_n hG dX11_back_10 rfl rfl ?_
    refine gg_dup hG dX11_back_11 rfl ?_
    refine gg_get (v := .int (u.1 1 8)) hG dX11_back_12 (by decide) rfl fl_RX11_123 rfl ?_
    refine gg_iconst (v := 1) hG dX11_back_15 (by decide) ?_
    refine gg_isub hG dX11_back_16 ?_
    refine gg_putI hG dX11_back_17 (by decide) rfl fp_RX11_123 rfl rfl rfl ?_
    refine gg_nu (fun u2 eu2 => ?_)
    replace h := h u2 eu2
    refine gg_aload_n hG dX11_back_20 rfl rfl ?_
    refine gg_get (v := .int (u2.1 1 8)) hG dX11_back_21 (by decide) rfl fl_RX11_123 rfl ?_
    exact gg_iret hG dX11_back_24 rfl rfl ⟨_, rfl, h⟩
  · replace h := h.2 c1
    refine gg_bipush (v := (-3)) hG dX11_back_7 (by decide) ?_
    exact gg_iret hG dX11_back_9 rfl rfl ⟨_, rfl, h⟩
theorem mt_X11_back   {u : gg_M} {Q : Int32 → gg_M → Prop} (h : w_X11_back  u Q) : gg_Mt 1 yX11_back cX11_back 1 (some .int) [.ref 1] u (gg_eI Q) :=
  gg_intro (own := RX11) (by decide +kernel) rfl rfl (Nat.le_of_ble_eq_true rfl) (fun G hG => m_X11_back hG  h)
/-! X11_partsOf -/
def w_X11_partsOf_c43 (a1 : Int32) (a4 : Int32) (z0 : Int64) (z1 : Int64) (u : gg_M) (k5 : Int64 × Int32 × gg_M → Prop) (Q : Int64 → gg_M → Prop) : Prop :=
  ∀ v1 : Int64, v1 = (z0 * z1) →
  k5 (v1, (a4 + 1), u)
set_option maxRecDepth 10000 in
theorem m_X11_partsOf_c43 {a1 : Int32} {a4 : Int32} {z0 : Int64} {z1 : Int64} {u : gg_M} {k5 : Int64 × Int32 × gg_M → Prop} {G : gg_T} {Q : Int64 → gg_M → Prop} (hG : gg_Cl none cX11_partsOf 5 RX11 (some .long) 2 (gg_eJ Q) G)  (h : w_X11_partsOf_c43 a1 a4 z0 z1 u k5 Q)  (hk5 : ∀ s : Int64 × Int32 × gg_M, k5 s → G 5 [some (.ref 1), some (.int a1), some (.long s.1), none, some (.int s.2.1)] [] s.2.2) : G 43 [some (.ref 1), some (.int a1), none, none, some (.int a4)] [.long z1, .long z0] u := by
  unfold w_X11_partsOf_c43 at h
  refine gg_lmul hG dX11_partsOf_43 ?_
  refine gg_nl (fun v1 e1 => ?_)
  replace h := h v1 e1
  refine gg_lstore_n (L1 := [some (.ref 1), some (.int a1), some (.long v1), none, some (.int a4)]) hG dX11_partsOf_44 rfl (by decide) rfl ?_
  refine gg_iinc (v := (a4 + 1)) (L1 := [some (.ref 1), some (.int a1), some (.long v1), none, some (.int (a4 + 1))]) hG dX11_partsOf_45 rfl rfl (by decide) rfl ?_
  refine gg_goto (tgt := 5) hG dX11_partsOf_48 (by decide) ?_
  exact hk5 _ h
def b_X11_partsOf_c5 (a1 : Int32) (a2 : Int64) (a4 : Int32) (u : gg_M)  (k5 : Int64 × Int32 × gg_M → Prop) (Q : Int64 → gg_M → Prop) : Prop :=
  (5 ≤ a4 →
   Q a2 u) ∧
  (¬ 5 ≤ a4 →
   w_X11_isIn a1 a4 u (fun v4 u3 =>
   (v4 = 0 →
    vp_in a4 5 ∧
    w_X11_partsOf_c43 a1 a4 a2 (((16 : Int32) - (u3.1 52 a4.toNatClampNeg)).toInt64) u3 k5 Q) ∧
   (¬ v4 = 0 →
    vp_in a4 5 ∧
    w_X11_partsOf_c43 a1 a4 a2 ((u3.1 52 a4.toNatClampNeg).toInt64) u3 k5 Q)))
set_option maxRecDepth 10000 in
theorem mb_X11_partsOf_c5 {a1 : Int32} {a2 : Int64} {a4 : Int32} {u : gg_M}  {k5 : Int64 × Int32 × gg_M → Prop} {G : gg_T} {Q : Int64 → gg_M → Prop} (hG : gg_Cl none cX11_partsOf 5 RX11 (some .long) 2 (gg_eJ Q) G)  (h : b_X11_partsOf_c5 a1 a2 a4 u k5 Q)   (hk5 : ∀ s : Int64 × Int32 × gg_M, k5 s → G 5 [some (.ref 1), some (.int a1), some (.long s.1), none, some (.int s.2.1)] [] s.2.2) : G 5 [some (.ref 1), some (.int a1), some (.long a2), none, some (.int a4)] [] u := by
  unfold b_X11_partsOf_c5 at h
  refine gg_iload hG dX11_partsOf_5 rfl ?_
  refine gg_iconst (v := 5) hG dX11_partsOf_7 (by decide) ?_
  refine gg_ic_ge (tgt := 51) hG dX11_partsOf_8 (by decide) (fun c2 => ?_) (fun c2 => ?_)
  · replace h := h.1 c2
    refine gg_lload_n hG dX11_partsOf_51 rfl rfl ?_
    exact gg_lret hG dX11_partsOf_52 rfl ⟨_, rfl, h⟩
  · replace h := h.2 c2
    refine gg_lload_n hG dX11_partsOf_11 rfl rfl ?_
    refine gg_iload_n hG dX11_partsOf_12 rfl rfl ?_
    refine gg_iload hG dX11_partsOf_13 rfl ?_
    refine gg_xs (As := [.int a1, .int a4]) (st := [.long a2]) hG dX11_partsOf_15 ml_RX11_119 Y_X11_isIn YS_X11_isIn (mt_X11_isIn h) rfl (by decide) (Nat.le_of_ble_eq_true rfl) rfl (gg_ki (fun v4 u3 h => ?_))
    refine gg_if_eq (tgt := 32) hG dX11_partsOf_18 (by decide) (fun c5 => ?_) (fun c5 => ?_)
    · replace h := h.1 c5
      refine gg_bipush (v := 16) hG dX11_partsOf_32 (by decide) ?_
      refine gg_aload_n hG dX11_partsOf_34 rfl rfl ?_
      refine gg_get (v := .ref 52) hG dX11_partsOf_35 (by decide) rfl fl_RX11_25 rfl ?_
      refine gg_iload hG dX11_partsOf_38 rfl ?_
      obtain ⟨h6, h⟩ := h
      refine gg_iald (j := a4.toNatClampNeg) hG dX11_partsOf_40 (by decide) rfl h6 rfl ?_
      refine gg_isub hG dX11_partsOf_41 ?_
      refine gg_i2l hG dX11_partsOf_42 ?_
      refine gg_mk hG [true, true, false, false, true] rfl ?_
      exact m_X11_partsOf_c43 hG h hk5
    · replace h := h.2 c5
      refine gg_aload_n hG dX11_partsOf_21 rfl rfl ?_
      refine gg_get (v := .ref 52) hG dX11_partsOf_22 (by decide) rfl fl_RX11_25 rfl ?_
      refine gg_iload hG dX11_partsOf_25 rfl ?_
      obtain ⟨h7, h⟩ := h
      refine gg_iald (j := a4.toNatClampNeg) hG dX11_partsOf_27 (by decide) rfl h7 rfl ?_
      refine gg_i2l hG dX11_partsOf_28 ?_
      refine gg_goto (tgt := 43) hG dX11_partsOf_29 (by decide) ?_
      refine gg_mk hG [true, true, false, false, true] rfl ?_
      exact m_X11_partsOf_c43 hG h hk5
def w_X11_partsOf_c5 (a1 : Int32) (a2 : Int64) (a4 : Int32) (u : gg_M)  (Q : Int64 → gg_M → Prop) : Prop :=
  gg_loop (fun (s : Int64 × Int32 × gg_M) k5 => b_X11_partsOf_c5 a1 s.1 s.2.1 s.2.2  k5 Q) (a2, a4, u)
set_option maxRecDepth 10000 in
theorem m_X11_partsOf_c5 {a1 : Int32} {a2 : Int64} {a4 : Int32} {u : gg_M}  {G : gg_T} {Q : Int64 → gg_M → Prop} (hG : gg_Cl none cX11_partsOf 5 RX11 (some .long) 2 (gg_eJ Q) G)  (h : w_X11_partsOf_c5 a1 a2 a4 u  Q)   : G 5 [some (.ref 1), some (.int a1), some (.long a2), none, some (.int a4)] [] u :=
  gg_loop_use (P := fun s : Int64 × Int32 × gg_M => G 5 [some (.ref 1), some (.int a1), some (.long s.1), none, some (.int s.2.1)] [] s.2.2) h (fun s rc hb hr => mb_X11_partsOf_c5 hG  hb   hr)
def w_X11_partsOf (a1 : Int32) (u : gg_M)  (Q : Int64 → gg_M → Prop) : Prop :=
  w_X11_partsOf_c5 a1 1 0 u Q
set_option maxRecDepth 10000 in
theorem m_X11_partsOf {a1 : Int32} {u : gg_M}  {G : gg_T} {Q : Int64 → gg_M → Prop} (hG : gg_Cl none cX11_partsOf 5 RX11 (some .long) 2 (gg_eJ Q) G)  (h : w_X11_partsOf a1 u  Q)   : G 0 [some (.ref 1), some (.int a1), none, none, none] [] u := by
  unfold w_X11_partsOf at h
  refine gg_lconst (v := 1) hG dX11_partsOf_0 (by decide) ?_
  refine gg_lstore_n (L1 := [some (.ref 1), some (.int a1), some (.long 1), none, none]) hG dX11_partsOf_1 rfl (by decide) rfl ?_
  refine gg_iconst (v := 0) hG dX11_partsOf_2 (by decide) ?_
  refine gg_istore (L1 := [some (.ref 1), some (.int a1), some (.long 1), none, some (.int 0)]) hG dX11_partsOf_3 (by decide) rfl ?_
  exact m_X11_partsOf_c5 hG h
theorem mt_X11_partsOf {a1 : Int32}  {u : gg_M} {Q : Int64 → gg_M → Prop} (h : w_X11_partsOf a1 u Q) : gg_Mt 2 yX11_partsOf cX11_partsOf 5 (some .long) [.ref 1, .int a1] u (gg_eJ Q) :=
  gg_intro (own := RX11) (by decide +kernel) rfl rfl (Nat.le_of_ble_eq_true rfl) (fun G hG => m_X11_partsOf hG  h)
/-! X11_lays -/
def w_X11_lays_c107 (a2 : Int32) (z1 : Int32) (z2 : Int64) (u : gg_M) (k12 : Int32 × gg_M → Prop) (Q : gg_M → Prop) : Prop :=
  vp_in z1 32 ∧
  ∀ u2 : gg_M, u2 = gg_wL u 55 z1.toNatClampNeg z2 →
  vp_in a2 32 ∧
  ∀ u4 : gg_M, u4 = gg_wL u2 1 12 ((u2.2 1 12) + (u2.2 55 a2.toNatClampNeg)) →
  k12 ((a2 + 1), u4)
set_option maxRecDepth 10000 in
theorem m_X11_lays_c107 {a2 : Int32} {z1 : Int32} {z2 : Int64} {u : gg_M} {k12 : Int32 × gg_M → Prop} {G : gg_T} {Q : gg_M → Prop} (hG : gg_Cl none cX11_lays 6 RX11 none 4 (gg_eV Q) G)  (h : w_X11_lays_c107 a2 z1 z2 u k12 Q)  (hk12 : ∀ s : Int32 × gg_M, k12 s → G 12 [some (.ref 1), none, some (.int s.1), none, none, none] [] s.2) : G 107 [some (.ref 1), none, some (.int a2), none, none, none] [.long z2, .int z1, .ref 55] u := by
  unfold w_X11_lays_c107 at h
  obtain ⟨h1, h⟩ := h
  refine gg_last (j := z1.toNatClampNeg) hG dX11_lays_107 (by decide) rfl h1 rfl ?_
  refine gg_nu (fun u2 eu2 => ?_)
  replace h := h u2 eu2
  refine gg_aload_n hG dX11_lays_108 rfl rfl ?_
  refine gg_dup hG dX11_lays_109 rfl ?_
  refine gg_get (v := .long (u2.2 1 12)) hG dX11_lays_110 (by decide) rfl fl_RX11_135 rfl ?_
  refine gg_aload_n hG dX11_lays_113 rfl rfl ?_
  refine gg_get (v := .ref 55) hG dX11_lays_114 (by decide) rfl fl_RX11_34 rfl ?_
  refine gg_iload_n hG dX11_lays_117 rfl rfl ?_
  obtain ⟨h3, h⟩ := h
  refine gg_lald (j := a2.toNatClampNeg) hG dX11_lays_118 (by decide) rfl h3 rfl ?_
  refine gg_ladd hG dX11_lays_119 ?_
  refine gg_putL hG dX11_lays_120 (by decide) rfl fp_RX11_135 rfl rfl rfl ?_
  refine gg_nu (fun u4 eu4 => ?_)
  replace h := h u4 eu4
  refine gg_iinc (v := (a2 + 1)) (L1 := [some (.ref 1), none, some (.int (a2 + 1)), none, none, none]) hG dX11_lays_123 rfl rfl (by decide) rfl ?_
  refine gg_goto (tgt := 12) hG dX11_lays_126 (by decide) ?_
  exact hk12 _ h
def w_X11_lays_c82 (a2 : Int32) (a4 : Int32) (z0 : Int32) (u : gg_M) (k12 : Int32 × gg_M → Prop) (k29 : Int32 × Int32 × gg_M → Prop) (Q : gg_M → Prop) : Prop :=
  k29 (z0, (a4 + 1), u)
set_option maxRecDepth 10000 in
theorem m_X11_lays_c82 {a2 : Int32} {a4 : Int32} {z0 : Int32} {u : gg_M} {k12 : Int32 × gg_M → Prop} {k29 : Int32 × Int32 × gg_M → Prop} {G : gg_T} {Q : gg_M → Prop} (hG : gg_Cl none cX11_lays 6 RX11 none 4 (gg_eV Q) G)  (h : w_X11_lays_c82 a2 a4 z0 u k12 k29 Q)  (hk12 : ∀ s : Int32 × gg_M, k12 s → G 12 [some (.ref 1), none, some (.int s.1), none, none, none] [] s.2) (hk29 : ∀ s : Int32 × Int32 × gg_M, k29 s → G 29 [some (.ref 1), none, some (.int a2), some (.int s.1), some (.int s.2.1), none] [] s.2.2) : G 82 [some (.ref 1), none, some (.int a2), none, some (.int a4), none] [.int z0] u := by
  unfold w_X11_lays_c82 at h
  refine gg_istore_n (L1 := [some (.ref 1), none, some (.int a2), some (.int z0), some (.int a4), none]) hG dX11_lays_82 rfl (by decide) rfl ?_
  refine gg_iinc (v := (a4 + 1)) (L1 := [some (.ref 1), none, some (.int a2), some (.int z0), some (.int (a4 + 1)), none]) hG dX11_lays_83 rfl rfl (by decide) rfl ?_
  refine gg_goto (tgt := 29) hG dX11_lays_86 (by decide) ?_
  exact hk29 _ h
def w_X11_lays_c81 (a2 : Int32) (a4 : Int32) (u : gg_M) (k12 : Int32 × gg_M → Prop) (k29 : Int32 × Int32 × gg_M → Prop) (Q : gg_M → Prop) : Prop :=
  w_X11_lays_c82 a2 a4 0 u k12 k29 Q
set_option maxRecDepth 10000 in
theorem m_X11_lays_c81 {a2 : Int32} {a4 : Int32} {u : gg_M} {k12 : Int32 × gg_M → Prop} {k29 : Int32 × Int32 × gg_M → Prop} {G : gg_T} {Q : gg_M → Prop} (hG : gg_Cl none cX11_lays 6 RX11 none 4 (gg_eV Q) G)  (h : w_X11_lays_c81 a2 a4 u k12 k29 Q)  (hk12 : ∀ s : Int32 × gg_M, k12 s → G 12 [some (.ref 1), none, some (.int s.1), none, none, none] [] s.2) (hk29 : ∀ s : Int32 × Int32 × gg_M, k29 s → G 29 [some (.ref 1), none, some (.int a2), some (.int s.1), some (.int s.2.1), none] [] s.2.2) : G 81 [some (.ref 1), none, some (.int a2), none, some (.int a4), none] [] u := by
  unfold w_X11_lays_c81 at h
  refine gg_iconst (v := 0) hG dX11_lays_81 (by decide) ?_
  exact m_X11_lays_c82 hG h hk12 hk29
def w_X11_lays_c66 (a2 : Int32) (a3 : Int32) (a4 : Int32) (z0 : Int32) (u : gg_M) (k12 : Int32 × gg_M → Prop) (k29 : Int32 × Int32 × gg_M → Prop) (Q : gg_M → Prop) : Prop :=
  (a3 = 0 →
   w_X11_lays_c81 a2 a4 u k12 k29 Q) ∧
  (¬ a3 = 0 →
   (z0 = 0 →
    w_X11_lays_c81 a2 a4 u k12 k29 Q) ∧
   (¬ z0 = 0 →
    w_X11_lays_c82 a2 a4 1 u k12 k29 Q))
set_option maxRecDepth 10000 in
theorem m_X11_lays_c66 {a2 : Int32} {a3 : Int32} {a4 : Int32} {z0 : Int32} {u : gg_M} {k12 : Int32 × gg_M → Prop} {k29 : Int32 × Int32 × gg_M → Prop} {G : gg_T} {Q : gg_M → Prop} (hG : gg_Cl none cX11_lays 6 RX11 none 4 (gg_eV Q) G)  (h : w_X11_lays_c66 a2 a3 a4 z0 u k12 k29 Q)  (hk12 : ∀ s : Int32 × gg_M, k12 s → G 12 [some (.ref 1), none, some (.int s.1), none, none, none] [] s.2) (hk29 : ∀ s : Int32 × Int32 × gg_M, k29 s → G 29 [some (.ref 1), none, some (.int a2), some (.int s.1), some (.int s.2.1), none] [] s.2.2) : G 66 [some (.ref 1), none, some (.int a2), some (.int a3), some (.int a4), none] [.int z0] u := by
  unfold w_X11_lays_c66 at h
  refine gg_istore (L1 := [some (.ref 1), none, some (.int a2), some (.int a3), some (.int a4), some (.int z0)]) hG dX11_lays_66 (by decide) rfl ?_
  refine gg_iload_n hG dX11_lays_68 rfl rfl ?_
  refine gg_if_eq (tgt := 81) hG dX11_lays_69 (by decide) (fun c5 => ?_) (fun c5 => ?_)
  · replace h := h.1 c5
    refine gg_mk hG [true, false, true, false, true, false] rfl ?_
    exact m_X11_lays_c81 hG h hk12 hk29
  · replace h := h.2 c5
    refine gg_iload hG dX11_lays_72 rfl ?_
    refine gg_if_eq (tgt := 81) hG dX11_lays_74 (by decide) (fun c6 => ?_) (fun c6 => ?_)
    · replace h := h.1 c6
      refine gg_mk hG [true, false, true, false, true, false] rfl ?_
      exact m_X11_lays_c81 hG h hk12 hk29
    · replace h := h.2 c6
      refine gg_iconst (v := 1) hG dX11_lays_77 (by decide) ?_
      refine gg_goto (tgt := 82) hG dX11_lays_78 (by decide) ?_
      refine gg_mk hG [true, false, true, false, true, false] rfl ?_
      exact m_X11_lays_c82 hG h hk12 hk29
def b_X11_lays_c29 (a2 : Int32) (a3 : Int32) (a4 : Int32) (u : gg_M) (k12 : Int32 × gg_M → Prop) (k29 : Int32 × Int32 × gg_M → Prop) (Q : gg_M → Prop) : Prop :=
  ((u.1 1 8) ≤ a4 →
   (a3 = 0 →
    w_X11_lays_c107 a2 a2 0 u k12 Q) ∧
   (¬ a3 = 0 →
    w_X11_partsOf a2 u (fun v10 u9 =>
    w_X11_lays_c107 a2 a2 v10 u9 k12 Q))) ∧
  (¬ (u.1 1 8) ≤ a4 →
   vp_in a4 24 ∧
   w_X11_does 0 a2 (u.1 53 a4.toNatClampNeg) u (fun v13 u12 =>
   vp_in a4 24 ∧
   (¬ v13 = (u12.1 54 a4.toNatClampNeg) →
    w_X11_lays_c66 a2 a3 a4 0 u12 k12 k29 Q) ∧
   (v13 = (u12.1 54 a4.toNatClampNeg) →
    w_X11_lays_c66 a2 a3 a4 1 u12 k12 k29 Q)))
set_option maxRecDepth 10000 in
theorem mb_X11_lays_c29 {a2 : Int32} {a3 : Int32} {a4 : Int32} {u : gg_M} {k12 : Int32 × gg_M → Prop} {k29 : Int32 × Int32 × gg_M → Prop} {G : gg_T} {Q : gg_M → Prop} (hG : gg_Cl none cX11_lays 6 RX11 none 4 (gg_eV Q) G)  (h : b_X11_lays_c29 a2 a3 a4 u k12 k29 Q)  (hk12 : ∀ s : Int32 × gg_M, k12 s → G 12 [some (.ref 1), none, some (.int s.1), none, none, none] [] s.2) (hk29 : ∀ s : Int32 × Int32 × gg_M, k29 s → G 29 [some (.ref 1), none, some (.int a2), some (.int s.1), some (.int s.2.1), none] [] s.2.2) : G 29 [some (.ref 1), none, some (.int a2), some (.int a3), some (.int a4), none] [] u := by
  unfold b_X11_lays_c29 at h
  refine gg_iload hG dX11_lays_29 rfl ?_
  refine gg_aload_n hG dX11_lays_31 rfl rfl ?_
  refine gg_get (v := .int (u.1 1 8)) hG dX11_lays_32 (by decide) rfl fl_RX11_123 rfl ?_
  refine gg_ic_ge (tgt := 89) hG dX11_lays_35 (by decide) (fun c7 => ?_) (fun c7 => ?_)
  · replace h := h.1 c7
    refine gg_aload_n hG dX11_lays_89 rfl rfl ?_
    refine gg_get (v := .ref 55) hG dX11_lays_90 (by decide) rfl fl_RX11_34 rfl ?_
    refine gg_iload_n hG dX11_lays_93 rfl rfl ?_
    refine gg_iload_n hG dX11_lays_94 rfl rfl ?_
    refine gg_if_eq (tgt := 106) hG dX11_lays_95 (by decide) (fun c8 => ?_) (fun c8 => ?_)
    · replace h := h.1 c8
      refine gg_lconst (v := 0) hG dX11_lays_106 (by decide) ?_
      refine gg_mk hG [true, false, true, false, false, false] rfl ?_
      exact m_X11_lays_c107 hG h hk12
    · replace h := h.2 c8
      refine gg_aload_n hG dX11_lays_98 rfl rfl ?_
      refine gg_iload_n hG dX11_lays_99 rfl rfl ?_
      refine gg_xv (As := [.int a2]) (st := [.int a2, .ref 55]) hG dX11_lays_100 ml_RX11_147 Y_X11_partsOf YV_X11_partsOf (by decide) ⟨_, rfl, rfl⟩ (mt_X11_partsOf h) rfl (by decide) (Nat.le_of_ble_eq_true rfl) rfl (gg_kj (fun v10 u9 h => ?_))
      refine gg_goto (tgt := 107) hG dX11_lays_103 (by decide) ?_
      refine gg_mk hG [true, false, true, false, false, false] rfl ?_
      exact m_X11_lays_c107 hG h hk12
  · replace h := h.2 c7
    refine gg_aload_n hG dX11_lays_38 rfl rfl ?_
    refine gg_iconst (v := 0) hG dX11_lays_39 (by decide) ?_
    refine gg_iload_n hG dX11_lays_40 rfl rfl ?_
    refine gg_aload_n hG dX11_lays_41 rfl rfl ?_
    refine gg_get (v := .ref 53) hG dX11_lays_42 (by decide) rfl fl_RX11_28 rfl ?_
    refine gg_iload hG dX11_lays_45 rfl ?_
    obtain ⟨h11, h⟩ := h
    refine gg_iald (j := a4.toNatClampNeg) hG dX11_lays_47 (by decide) rfl h11 rfl ?_
    refine gg_xv (As := [.int 0, .int a2, .int (u.1 53 a4.toNatClampNeg)]) (st := []) hG dX11_lays_48 ml_RX11_143 Y_X11_does YV_X11_does (by decide) ⟨_, rfl, rfl⟩ (mt_X11_does h) rfl (by decide) (Nat.le_of_ble_eq_true rfl) rfl (gg_ki (fun v13 u12 h => ?_))
    refine gg_aload_n hG dX11_lays_51 rfl rfl ?_
    refine gg_get (v := .ref 54) hG dX11_lays_52 (by decide) rfl fl_RX11_31 rfl ?_
    refine gg_iload hG dX11_lays_55 rfl ?_
    obtain ⟨h14, h⟩ := h
    refine gg_iald (j := a4.toNatClampNeg) hG dX11_lays_57 (by decide) rfl h14 rfl ?_
    refine gg_ic_ne (tgt := 65) hG dX11_lays_58 (by decide) (fun c15 => ?_) (fun c15 => ?_)
    · replace h := h.1 c15
      refine gg_iconst (v := 0) hG dX11_lays_65 (by decide) ?_
      exact m_X11_lays_c66 hG h hk12 hk29
    · replace h := h.2 c15
      refine gg_iconst (v := 1) hG dX11_lays_61 (by decide) ?_
      refine gg_goto (tgt := 66) hG dX11_lays_62 (by decide) ?_
      exact m_X11_lays_c66 hG h hk12 hk29
def w_X11_lays_c29 (a2 : Int32) (a3 : Int32) (a4 : Int32) (u : gg_M) (k12 : Int32 × gg_M → Prop) (Q : gg_M → Prop) : Prop :=
  gg_loop (fun (s : Int32 × Int32 × gg_M) k29 => b_X11_lays_c29 a2 s.1 s.2.1 s.2.2 k12 k29 Q) (a3, a4, u)
set_option maxRecDepth 10000 in
theorem m_X11_lays_c29 {a2 : Int32} {a3 : Int32} {a4 : Int32} {u : gg_M} {k12 : Int32 × gg_M → Prop} {G : gg_T} {Q : gg_M → Prop} (hG : gg_Cl none cX11_lays 6 RX11 none 4 (gg_eV Q) G)  (h : w_X11_lays_c29 a2 a3 a4 u k12 Q)  (hk12 : ∀ s : Int32 × gg_M, k12 s → G 12 [some (.ref 1), none, some (.int s.1), none, none, none] [] s.2) : G 29 [some (.ref 1), none, some (.int a2), some (.int a3), some (.int a4), none] [] u :=
  gg_loop_use (P := fun s : Int32 × Int32 × gg_M => G 29 [some (.ref 1), none, some (.int a2), some (.int s.1), some (.int s.2.1), none] [] s.2.2) h (fun s rc hb hr => mb_X11_lays_c29 hG  hb  hk12 hr)
def b_X11_lays_c12  (a2 : Int32) (u : gg_M)  (k12 : Int32 × gg_M → Prop) (Q : gg_M → Prop) : Prop :=
  (32 ≤ a2 →
   Q u) ∧
  (¬ 32 ≤ a2 →
   w_X11_begins 0 a2 u (fun u17 =>
   w_X11_lays_c29 a2 1 0 u17 k12 Q))
set_option maxRecDepth 10000 in
theorem mb_X11_lays_c12  {a2 : Int32} {u : gg_M}  {k12 : Int32 × gg_M → Prop} {G : gg_T} {Q : gg_M → Prop} (hG : gg_Cl none cX11_lays 6 RX11 none 4 (gg_eV Q) G)  (h : b_X11_lays_c12 a2 u k12 Q)   (hk12 : ∀ s : Int32 × gg_M, k12 s → G 12 [some (.ref 1), none, some (.int s.1), none, none, none] [] s.2) : G 12 [some (.ref 1), none, some (.int a2), none, none, none] [] u := by
  unfold b_X11_lays_c12 at h
  refine gg_iload_n hG dX11_lays_12 rfl rfl ?_
  refine gg_bipush (v := 32) hG dX11_lays_13 (by decide) ?_
  refine gg_ic_ge (tgt := 129) hG dX11_lays_15 (by decide) (fun c16 => ?_) (fun c16 => ?_)
  · replace h := h.1 c16
    exact gg_vret hG dX11_lays_129 rfl ⟨rfl, h⟩
  · replace h := h.2 c16
    refine gg_aload_n hG dX11_lays_18 rfl rfl ?_
    refine gg_iconst (v := 0) hG dX11_lays_19 (by decide) ?_
    refine gg_iload_n hG dX11_lays_20 rfl rfl ?_
    refine gg_xv (As := [.int 0, .int a2]) (st := []) hG dX11_lays_21 ml_RX11_139 Y_X11_begins YV_X11_begins (by decide) ⟨_, rfl, rfl⟩ (mt_X11_begins h) rfl (by decide) (Nat.le_of_ble_eq_true rfl) rfl (gg_kv (fun u17 h => ?_))
    refine gg_iconst (v := 1) hG dX11_lays_24 (by decide) ?_
    refine gg_istore_n (L1 := [some (.ref 1), none, some (.int a2), some (.int 1), none, none]) hG dX11_lays_25 rfl (by decide) rfl ?_
    refine gg_iconst (v := 0) hG dX11_lays_26 (by decide) ?_
    refine gg_istore (L1 := [some (.ref 1), none, some (.int a2), some (.int 1), some (.int 0), none]) hG dX11_lays_27 (by decide) rfl ?_
    exact m_X11_lays_c29 hG h hk12
def w_X11_lays_c12 (a2 : Int32) (u : gg_M)  (Q : gg_M → Prop) : Prop :=
  gg_loop (fun (s : Int32 × gg_M) k12 => b_X11_lays_c12  s.1 s.2  k12 Q) (a2, u)
set_option maxRecDepth 10000 in
theorem m_X11_lays_c12 {a2 : Int32} {u : gg_M}  {G : gg_T} {Q : gg_M → Prop} (hG : gg_Cl none cX11_lays 6 RX11 none 4 (gg_eV Q) G)  (h : w_X11_lays_c12 a2 u  Q)   : G 12 [some (.ref 1), none, some (.int a2), none, none, none] [] u :=
  gg_loop_use (P := fun s : Int32 × gg_M => G 12 [some (.ref 1), none, some (.int s.1), none, none, none] [] s.2) h (fun s rc hb hr => mb_X11_lays_c12 hG  hb   hr)
def w_X11_lays  (u : gg_M)  (Q : gg_M → Prop) : Prop :=
  w_X11_motorNow u (fun v19 u18 =>
  ∀ u20 : gg_M, u20 = gg_wL u18 1 12 0 →
  w_X11_lays_c12 0 u20 Q)
set_option maxRecDepth 10000 in
theorem m_X11_lays  {u : gg_M}  {G : gg_T} {Q : gg_M → Prop} (hG : gg_Cl none cX11_lays 6 RX11 none 4 (gg_eV Q) G)  (h : w_X11_lays  u  Q)   : G 0 [some (.ref 1), none, none, none, none, none] [] u := by
  unfold w_X11_lays at h
  refine gg_aload_n hG dX11_lays_0 rfl rfl ?_
  refine gg_xv (As := []) (st := []) hG dX11_lays_1 ml_RX11_104 Y_X11_motorNow YV_X11_motorNow (by decide) ⟨_, rfl, rfl⟩ (mt_X11_motorNow h) rfl (by decide) (Nat.le_of_ble_eq_true rfl) rfl (gg_ki (fun v19 u18 h => ?_))
  refine gg_istore_n (L1 := [some (.ref 1), some (.int v19), none, none, none, none]) hG dX11_lays_4 rfl (by decide) rfl ?_
  refine gg_aload_n hG dX11_lays_5 rfl rfl ?_
  refine gg_lconst (v := 0) hG dX11_lays_6 (by decide) ?_
  refine gg_putL hG dX11_lays_7 (by decide) rfl fp_RX11_135 rfl rfl rfl ?_
  refine gg_nu (fun u20 eu20 => ?_)
  replace h := h u20 eu20
  refine gg_iconst (v := 0) hG dX11_lays_10 (by decide) ?_
  refine gg_istore_n (L1 := [some (.ref 1), some (.int v19), some (.int 0), none, none, none]) hG dX11_lays_11 rfl (by decide) rfl ?_
  refine gg_mk hG [true, false, true, false, false, false] rfl ?_
  exact m_X11_lays_c12 hG h
theorem mt_X11_lays   {u : gg_M} {Q : gg_M → Prop} (h : w_X11_lays  u Q) : gg_Mt 4 yX11_lays cX11_lays 6 none [.ref 1] u (gg_eV Q) :=
  gg_intro (own := RX11) (by decide +kernel) rfl rfl (Nat.le_of_ble_eq_true rfl) (fun G hG => m_X11_lays hG  h)
/-! X11_leftNow -/
def w_X11_leftNow_c31 (a2 : Int32) (z0 : Int32) (z1 : Int32) (u : gg_M) (k8 : Int32 × Int32 × gg_M → Prop) (Q : Int32 → gg_M → Prop) : Prop :=
  ∀ v1 : Int32, v1 = (z0 + z1) →
  k8 (v1, (a2 + 1), u)
set_option maxRecDepth 10000 in
theorem m_X11_leftNow_c31 {a2 : Int32} {z0 : Int32} {z1 : Int32} {u : gg_M} {k8 : Int32 × Int32 × gg_M → Prop} {G : gg_T} {Q : Int32 → gg_M → Prop} (hG : gg_Cl none cX11_leftNow 3 RX11 (some .int) 5 (gg_eI Q) G)  (h : w_X11_leftNow_c31 a2 z0 z1 u k8 Q)  (hk8 : ∀ s : Int32 × Int32 × gg_M, k8 s → G 8 [some (.ref 1), some (.int s.1), some (.int s.2.1)] [] s.2.2) : G 31 [some (.ref 1), none, some (.int a2)] [.int z1, .int z0] u := by
  unfold w_X11_leftNow_c31 at h
  refine gg_iadd hG dX11_leftNow_31 ?_
  refine gg_ni (fun v1 e1 => ?_)
  replace h := h v1 e1
  refine gg_istore_n (L1 := [some (.ref 1), some (.int v1), some (.int a2)]) hG dX11_leftNow_32 rfl (by decide) rfl ?_
  refine gg_iinc (v := (a2 + 1)) (L1 := [some (.ref 1), some (.int v1), some (.int (a2 + 1))]) hG dX11_leftNow_33 rfl rfl (by decide) rfl ?_
  refine gg_goto (tgt := 8) hG dX11_leftNow_36 (by decide) ?_
  exact hk8 _ h
def b_X11_leftNow_c8  (a1 : Int32) (a2 : Int32) (u : gg_M)  (k8 : Int32 × Int32 × gg_M → Prop) (Q : Int32 → gg_M → Prop) : Prop :=
  (32 ≤ a2 →
   Q a1 u) ∧
  (¬ 32 ≤ a2 →
   vp_in a2 32 ∧
   ((lg_cmp (u.2 55 a2.toNatClampNeg) 0) ≤ 0 →
    w_X11_leftNow_c31 a2 a1 0 u k8 Q) ∧
   (¬ (lg_cmp (u.2 55 a2.toNatClampNeg) 0) ≤ 0 →
    w_X11_leftNow_c31 a2 a1 1 u k8 Q))
set_option maxRecDepth 10000 in
theorem mb_X11_leftNow_c8  {a1 : Int32} {a2 : Int32} {u : gg_M}  {k8 : Int32 × Int32 × gg_M → Prop} {G : gg_T} {Q : Int32 → gg_M → Prop} (hG : gg_Cl none cX11_leftNow 3 RX11 (some .int) 5 (gg_eI Q) G)  (h : b_X11_leftNow_c8 a1 a2 u k8 Q)   (hk8 : ∀ s : Int32 × Int32 × gg_M, k8 s → G 8 [some (.ref 1), some (.int s.1), some (.int s.2.1)] [] s.2.2) : G 8 [some (.ref 1), some (.int a1), some (.int a2)] [] u := by
  unfold b_X11_leftNow_c8 at h
  refine gg_iload_n hG dX11_leftNow_8 rfl rfl ?_
  refine gg_bipush (v := 32) hG dX11_leftNow_9 (by decide) ?_
  refine gg_ic_ge (tgt := 39) hG dX11_leftNow_11 (by decide) (fun c2 => ?_) (fun c2 => ?_)
  · replace h := h.1 c2
    refine gg_iload_n hG dX11_leftNow_39 rfl rfl ?_
    exact gg_iret hG dX11_leftNow_40 rfl rfl ⟨_, rfl, h⟩
  · replace h := h.2 c2
    refine gg_iload_n hG dX11_leftNow_14 rfl rfl ?_
    refine gg_aload_n hG dX11_leftNow_15 rfl rfl ?_
    refine gg_get (v := .ref 55) hG dX11_leftNow_16 (by decide) rfl fl_RX11_34 rfl ?_
    refine gg_iload_n hG dX11_leftNow_19 rfl rfl ?_
    obtain ⟨h3, h⟩ := h
    refine gg_lald (j := a2.toNatClampNeg) hG dX11_leftNow_20 (by decide) rfl h3 rfl ?_
    refine gg_lconst (v := 0) hG dX11_leftNow_21 (by decide) ?_
    refine gg_lcmp hG dX11_leftNow_22 ?_
    refine gg_if_le (tgt := 30) hG dX11_leftNow_23 (by decide) (fun c4 => ?_) (fun c4 => ?_)
    · replace h := h.1 c4
      refine gg_iconst (v := 0) hG dX11_leftNow_30 (by decide) ?_
      refine gg_mk hG [true, false, true] rfl ?_
      exact m_X11_leftNow_c31 hG h hk8
    · replace h := h.2 c4
      refine gg_iconst (v := 1) hG dX11_leftNow_26 (by decide) ?_
      refine gg_goto (tgt := 31) hG dX11_leftNow_27 (by decide) ?_
      refine gg_mk hG [true, false, true] rfl ?_
      exact m_X11_leftNow_c31 hG h hk8
def w_X11_leftNow_c8 (a1 : Int32) (a2 : Int32) (u : gg_M)  (Q : Int32 → gg_M → Prop) : Prop :=
  gg_loop (fun (s : Int32 × Int32 × gg_M) k8 => b_X11_leftNow_c8  s.1 s.2.1 s.2.2  k8 Q) (a1, a2, u)
set_option maxRecDepth 10000 in
theorem m_X11_leftNow_c8 {a1 : Int32} {a2 : Int32} {u : gg_M}  {G : gg_T} {Q : Int32 → gg_M → Prop} (hG : gg_Cl none cX11_leftNow 3 RX11 (some .int) 5 (gg_eI Q) G)  (h : w_X11_leftNow_c8 a1 a2 u  Q)   : G 8 [some (.ref 1), some (.int a1), some (.int a2)] [] u :=
  gg_loop_use (P := fun s : Int32 × Int32 × gg_M => G 8 [some (.ref 1), some (.int s.1), some (.int s.2.1)] [] s.2.2) h (fun s rc hb hr => mb_X11_leftNow_c8 hG  hb   hr)
def w_X11_leftNow  (u : gg_M)  (Q : Int32 → gg_M → Prop) : Prop :=
  w_X11_lays u (fun u5 =>
  w_X11_leftNow_c8 0 0 u5 Q)
set_option maxRecDepth 10000 in
theorem m_X11_leftNow  {u : gg_M}  {G : gg_T} {Q : Int32 → gg_M → Prop} (hG : gg_Cl none cX11_leftNow 3 RX11 (some .int) 5 (gg_eI Q) G)  (h : w_X11_leftNow  u  Q)   : G 0 [some (.ref 1), none, none] [] u := by
  unfold w_X11_leftNow at h
  refine gg_aload_n hG dX11_leftNow_0 rfl rfl ?_
  refine gg_xv (As := []) (st := []) hG dX11_leftNow_1 ml_RX11_151 Y_X11_lays YV_X11_lays (by decide) ⟨_, rfl, rfl⟩ (mt_X11_lays h) rfl (by decide) (Nat.le_of_ble_eq_true rfl) rfl (gg_kv (fun u5 h => ?_))
  refine gg_iconst (v := 0) hG dX11_leftNow_4 (by decide) ?_
  refine gg_istore_n (L1 := [some (.ref 1), some (.int 0), none]) hG dX11_leftNow_5 rfl (by decide) rfl ?_
  refine gg_iconst (v := 0) hG dX11_leftNow_6 (by decide) ?_
  refine gg_istore_n (L1 := [some (.ref 1), some (.int 0), some (.int 0)]) hG dX11_leftNow_7 rfl (by decide) rfl ?_
  exact m_X11_leftNow_c8 hG h
theorem mt_X11_leftNow   {u : gg_M} {Q : Int32 → gg_M → Prop} (h : w_X11_leftNow  u Q) : gg_Mt 5 yX11_leftNow cX11_leftNow 3 (some .int) [.ref 1] u (gg_eI Q) :=
  gg_intro (own := RX11) (by decide +kernel) rfl rfl (Nat.le_of_ble_eq_true rfl) (fun G hG => m_X11_leftNow hG  h)
/-! X11_left -/
def w_X11_left  (u : gg_M)  (Q : Int32 → gg_M → Prop) : Prop :=
  w_X11_leftNow u (fun v2 u1 =>
  Q v2 u1)
set_option maxRecDepth 10000 in
theorem m_X11_left  {u : gg_M}  {G : gg_T} {Q : Int32 → gg_M → Prop} (hG : gg_Cl none cX11_left 1 RX11 (some .int) 6 (gg_eI Q) G)  (h : w_X11_left  u  Q)   : G 0 [some (.ref 1)] [] u := by
  unfold w_X11_left at h
  refine gg_aload_n hG dX11_left_0 rfl rfl ?_
  refine gg_xv (As := []) (st := []) hG dX11_left_1 ml_RX11_154 Y_X11_leftNow YV_X11_leftNow (by decide) ⟨_, rfl, rfl⟩ (mt_X11_leftNow h) rfl (by decide) (Nat.le_of_ble_eq_true rfl) rfl (gg_ki (fun v2 u1 h => ?_))
  exact gg_iret hG dX11_left_4 rfl rfl ⟨_, rfl, h⟩
theorem mt_X11_left   {u : gg_M} {Q : Int32 → gg_M → Prop} (h : w_X11_left  u Q) : gg_Mt 6 yX11_left cX11_left 1 (some .int) [.ref 1] u (gg_eI Q) :=
  gg_intro (own := RX11) (by decide +kernel) rfl rfl (Nat.le_of_ble_eq_true rfl) (fun G hG => m_X11_left hG  h)
/-! X11_isSet -/
def w_X11_isSet (a0 : Int32) (u : gg_M)  (Q : Int32 → gg_M → Prop) : Prop :=
  w_X11_in a0 0 31 u (fun v2 u1 =>
  (v2 = 0 ∨ v2 = 1) ∧
  Q v2 u1)
set_option maxRecDepth 10000 in
theorem m_X11_isSet {a0 : Int32} {u : gg_M}  {G : gg_T} {Q : Int32 → gg_M → Prop} (hG : gg_Cl none cX11_isSet 1 RX11 (some .boolean) 2 (gg_eI Q) G)  (h : w_X11_isSet a0 u  Q)   : G 0 [some (.int a0)] [] u := by
  unfold w_X11_isSet at h
  refine gg_iload_n hG dX11_isSet_0 rfl rfl ?_
  refine gg_iconst (v := 0) hG dX11_isSet_1 (by decide) ?_
  refine gg_bipush (v := 31) hG dX11_isSet_2 (by decide) ?_
  refine gg_xs (As := [.int a0, .int 0, .int 31]) (st := []) hG dX11_isSet_4 ml_RX11_68 Y_X11_in YS_X11_in (mt_X11_in h) rfl (by decide) (Nat.le_of_ble_eq_true rfl) rfl (gg_ki (fun v2 u1 h => ?_))
  obtain ⟨h3, h⟩ := h
  exact gg_iret hG dX11_isSet_7 rfl (gg_nb h3).1 ⟨_, rfl, h⟩
theorem mt_X11_isSet {a0 : Int32}  {u : gg_M} {Q : Int32 → gg_M → Prop} (h : w_X11_isSet a0 u Q) : gg_Mt 2 yX11_isSet cX11_isSet 1 (some .boolean) [.int a0] u (gg_eI Q) :=
  gg_intro (own := RX11) (by decide +kernel) rfl rfl (Nat.le_of_ble_eq_true rfl) (fun G hG => m_X11_isSet hG  h)
/-! X11_odds -/
def w_X11_odds_c57 (z0 : Int64) (u : gg_M)  (Q : Int64 → gg_M → Prop) : Prop :=
  Q z0 u
set_option maxRecDepth 10000 in
theorem m_X11_odds_c57 {z0 : Int64} {u : gg_M}  {G : gg_T} {Q : Int64 → gg_M → Prop} (hG : gg_Cl none cX11_odds 3 RX11 (some .long) 5 (gg_eJ Q) G)  (h : w_X11_odds_c57 z0 u  Q)   : G 57 [none, none, none] [.long z0] u := by
  unfold w_X11_odds_c57 at h
  exact gg_lret hG dX11_odds_57 rfl ⟨_, rfl, h⟩
def w_X11_odds_c16  (u : gg_M)  (Q : Int64 → gg_M → Prop) : Prop :=
  w_X11_no (-2) u (fun v2 u1 =>
  Q v2 u1)
set_option maxRecDepth 10000 in
theorem m_X11_odds_c16  {u : gg_M}  {G : gg_T} {Q : Int64 → gg_M → Prop} (hG : gg_Cl none cX11_odds 3 RX11 (some .long) 5 (gg_eJ Q) G)  (h : w_X11_odds_c16  u  Q)   : G 16 [none, none, none] [] u := by
  unfold w_X11_odds_c16 at h
  refine gg_bipush (v := (-2)) hG dX11_odds_16 (by decide) ?_
  refine gg_xs (As := [.int (-2)]) (st := []) hG dX11_odds_18 ml_RX11_160 Y_X11_no YS_X11_no (mt_X11_no h) rfl (by decide) (Nat.le_of_ble_eq_true rfl) rfl (gg_kj (fun v2 u1 h => ?_))
  exact gg_lret hG dX11_odds_21 rfl ⟨_, rfl, h⟩
def w_X11_odds (a1 : Int32) (a2 : Int32) (u : gg_M)  (Q : Int64 → gg_M → Prop) : Prop :=
  w_X11_isSet a1 u (fun v4 u3 =>
  (v4 = 0 →
   w_X11_odds_c16 u3 Q) ∧
  (¬ v4 = 0 →
   w_X11_in a2 0 1 u3 (fun v7 u6 =>
   (¬ v7 = 0 →
    w_X11_lays u6 (fun u9 =>
    (¬ (lg_cmp (u9.2 1 12) 0) = 0 →
     vp_in a1 32 ∧
     w_X11_lowest (u9.2 55 a1.toNatClampNeg) (u9.2 1 12) a2 u9 (fun v13 u12 =>
     w_X11_odds_c57 v13 u12 Q)) ∧
    ((lg_cmp (u9.2 1 12) 0) = 0 →
     w_X11_no (-3) u9 (fun v15 u14 =>
     w_X11_odds_c57 v15 u14 Q)))) ∧
   (v7 = 0 →
    w_X11_odds_c16 u6 Q))))
set_option maxRecDepth 10000 in
theorem m_X11_odds {a1 : Int32} {a2 : Int32} {u : gg_M}  {G : gg_T} {Q : Int64 → gg_M → Prop} (hG : gg_Cl none cX11_odds 3 RX11 (some .long) 5 (gg_eJ Q) G)  (h : w_X11_odds a1 a2 u  Q)   : G 0 [some (.ref 1), some (.int a1), some (.int a2)] [] u := by
  unfold w_X11_odds at h
  refine gg_iload_n hG dX11_odds_0 rfl rfl ?_
  refine gg_xs (As := [.int a1]) (st := []) hG dX11_odds_1 ml_RX11_157 Y_X11_isSet YS_X11_isSet (mt_X11_isSet h) rfl (by decide) (Nat.le_of_ble_eq_true rfl) rfl (gg_ki (fun v4 u3 h => ?_))
  refine gg_if_eq (tgt := 16) hG dX11_odds_4 (by decide) (fun c5 => ?_) (fun c5 => ?_)
  · replace h := h.1 c5
    refine gg_mk hG [false, false, false] rfl ?_
    exact m_X11_odds_c16 hG h
  · replace h := h.2 c5
    refine gg_iload_n hG dX11_odds_7 rfl rfl ?_
    refine gg_iconst (v := 0) hG dX11_odds_8 (by decide) ?_
    refine gg_iconst (v := 1) hG dX11_odds_9 (by decide) ?_
    refine gg_xs (As := [.int a2, .int 0, .int 1]) (st := []) hG dX11_odds_10 ml_RX11_68 Y_X11_in YS_X11_in (mt_X11_in h) rfl (by decide) (Nat.le_of_ble_eq_true rfl) rfl (gg_ki (fun v7 u6 h => ?_))
    refine gg_if_ne (tgt := 22) hG dX11_odds_13 (by decide) (fun c8 => ?_) (fun c8 => ?_)
    · replace h := h.1 c8
      refine gg_aload_n hG dX11_odds_22 rfl rfl ?_
      refine gg_xv (As := []) (st := []) hG dX11_odds_23 ml_RX11_151 Y_X11_lays YV_X11_lays (by decide) ⟨_, rfl, rfl⟩ (mt_X11_lays h) rfl (by decide) (Nat.le_of_ble_eq_true rfl) rfl (gg_kv (fun u9 h => ?_))
      refine gg_aload_n hG dX11_odds_26 rfl rfl ?_
      refine gg_get (v := .long (u9.2 1 12)) hG dX11_odds_27 (by decide) rfl fl_RX11_135 rfl ?_
      refine gg_lconst (v := 0) hG dX11_odds_30 (by decide) ?_
      refine gg_lcmp hG dX11_odds_31 ?_
      refine gg_if_ne (tgt := 43) hG dX11_odds_32 (by decide) (fun c10 => ?_) (fun c10 => ?_)
      · replace h := h.1 c10
        refine gg_aload_n hG dX11_odds_43 rfl rfl ?_
        refine gg_get (v := .ref 55) hG dX11_odds_44 (by decide) rfl fl_RX11_34 rfl ?_
        refine gg_iload_n hG dX11_odds_47 rfl rfl ?_
        obtain ⟨h11, h⟩ := h
        refine gg_lald (j := a1.toNatClampNeg) hG dX11_odds_48 (by decide) rfl h11 rfl ?_
        refine gg_aload_n hG dX11_odds_49 rfl rfl ?_
        refine gg_get (v := .long (u9.2 1 12)) hG dX11_odds_50 (by decide) rfl fl_RX11_135 rfl ?_
        refine gg_iload_n hG dX11_odds_53 rfl rfl ?_
        refine gg_xs (As := [.long (u9.2 55 a1.toNatClampNeg), .long (u9.2 1 12), .int a2]) (st := []) hG dX11_odds_54 ml_RX11_163 Y_X11_lowest YS_X11_lowest (mt_X11_lowest h) rfl (by decide) (Nat.le_of_ble_eq_true rfl) rfl (gg_kj (fun v13 u12 h => ?_))
        refine gg_mk hG [false, false, false] rfl ?_
        exact m_X11_odds_c57 hG h
      · replace h := h.2 c10
        refine gg_bipush (v := (-3)) hG dX11_odds_35 (by decide) ?_
        refine gg_xs (As := [.int (-3)]) (st := []) hG dX11_odds_37 ml_RX11_160 Y_X11_no YS_X11_no (mt_X11_no h) rfl (by decide) (Nat.le_of_ble_eq_true rfl) rfl (gg_kj (fun v15 u14 h => ?_))
        refine gg_goto (tgt := 57) hG dX11_odds_40 (by decide) ?_
        refine gg_mk hG [false, false, false] rfl ?_
        exact m_X11_odds_c57 hG h
    · replace h := h.2 c8
      refine gg_mk hG [false, false, false] rfl ?_
      exact m_X11_odds_c16 hG h
theorem mt_X11_odds {a1 : Int32} {a2 : Int32}  {u : gg_M} {Q : Int64 → gg_M → Prop} (h : w_X11_odds a1 a2 u Q) : gg_Mt 5 yX11_odds cX11_odds 3 (some .long) [.ref 1, .int a1, .int a2] u (gg_eJ Q) :=
  gg_intro (own := RX11) (by decide +kernel) rfl rfl (Nat.le_of_ble_eq_true rfl) (fun G hG => m_X11_odds hG  h)
/-! X11_troubleNow -/
def w_X11_troubleNow_c71 (z0 : Int64) (u : gg_M)  (Q : Int64 → gg_M → Prop) : Prop :=
  Q z0 u
set_option maxRecDepth 10000 in
theorem m_X11_troubleNow_c71 {z0 : Int64} {u : gg_M}  {G : gg_T} {Q : Int64 → gg_M → Prop} (hG : gg_Cl none cX11_troubleNow 6 RX11 (some .long) 5 (gg_eJ Q) G)  (h : w_X11_troubleNow_c71 z0 u  Q)   : G 71 [none, none, none, none, none, none] [.long z0] u := by
  unfold w_X11_troubleNow_c71 at h
  exact gg_lret hG dX11_troubleNow_71 rfl ⟨_, rfl, h⟩
def w_X11_troubleNow_c37 (a1 : Int32) (a2 : Int32) (a5 : Int32) (z0 : Int64) (z1 : Int64) (u : gg_M) (k9 : Int64 × Int32 × gg_M → Prop) (Q : Int64 → gg_M → Prop) : Prop :=
  ∀ v1 : Int64, v1 = (z0 + z1) →
  k9 (v1, (a5 + 1), u)
set_option maxRecDepth 10000 in
theorem m_X11_troubleNow_c37 {a1 : Int32} {a2 : Int32} {a5 : Int32} {z0 : Int64} {z1 : Int64} {u : gg_M} {k9 : Int64 × Int32 × gg_M → Prop} {G : gg_T} {Q : Int64 → gg_M → Prop} (hG : gg_Cl none cX11_troubleNow 6 RX11 (some .long) 5 (gg_eJ Q) G)  (h : w_X11_troubleNow_c37 a1 a2 a5 z0 z1 u k9 Q)  (hk9 : ∀ s : Int64 × Int32 × gg_M, k9 s → G 9 [some (.ref 1), some (.int a1), some (.int a2), some (.long s.1), none, some (.int s.2.1)] [] s.2.2) : G 37 [some (.ref 1), some (.int a1), some (.int a2), none, none, some (.int a5)] [.long z1, .long z0] u := by
  unfold w_X11_troubleNow_c37 at h
  refine gg_ladd hG dX11_troubleNow_37 ?_
  refine gg_nl (fun v1 e1 => ?_)
  replace h := h v1 e1
  refine gg_lstore_n (L1 := [some (.ref 1), some (.int a1), some (.int a2), some (.long v1), none, some (.int a5)]) hG dX11_troubleNow_38 rfl (by decide) rfl ?_
  refine gg_iinc (v := (a5 + 1)) (L1 := [some (.ref 1), some (.int a1), some (.int a2), some (.long v1), none, some (.int (a5 + 1))]) hG dX11_troubleNow_39 rfl rfl (by decide) rfl ?_
  refine gg_goto (tgt := 9) hG dX11_troubleNow_42 (by decide) ?_
  exact hk9 _ h
def b_X11_troubleNow_c9 (a1 : Int32) (a2 : Int32) (a3 : Int64) (a5 : Int32) (u : gg_M)  (k9 : Int64 × Int32 × gg_M → Prop) (Q : Int64 → gg_M → Prop) : Prop :=
  (32 ≤ a5 →
   (¬ (lg_cmp (u.2 1 12) 0) = 0 →
    w_X11_lowest a3 (u.2 1 12) a2 u (fun v5 u4 =>
    w_X11_troubleNow_c71 v5 u4 Q)) ∧
   ((lg_cmp (u.2 1 12) 0) = 0 →
    w_X11_no (-3) u (fun v7 u6 =>
    w_X11_troubleNow_c71 v7 u6 Q))) ∧
  (¬ 32 ≤ a5 →
   w_X11_isIn a5 a1 u (fun v9 u8 =>
   (v9 = 0 →
    w_X11_troubleNow_c37 a1 a2 a5 a3 0 u8 k9 Q) ∧
   (¬ v9 = 0 →
    vp_in a5 32 ∧
    w_X11_troubleNow_c37 a1 a2 a5 a3 (u8.2 55 a5.toNatClampNeg) u8 k9 Q)))
set_option maxRecDepth 10000 in
theorem mb_X11_troubleNow_c9 {a1 : Int32} {a2 : Int32} {a3 : Int64} {a5 : Int32} {u : gg_M}  {k9 : Int64 × Int32 × gg_M → Prop} {G : gg_T} {Q : Int64 → gg_M → Prop} (hG : gg_Cl none cX11_troubleNow 6 RX11 (some .long) 5 (gg_eJ Q) G)  (h : b_X11_troubleNow_c9 a1 a2 a3 a5 u k9 Q)   (hk9 : ∀ s : Int64 × Int32 × gg_M, k9 s → G 9 [some (.ref 1), some (.int a1), some (.int a2), some (.long s.1), none, some (.int s.2.1)] [] s.2.2) : G 9 [some (.ref 1), some (.int a1), some (.int a2), some (.long a3), none, some (.int a5)] [] u := by
  unfold b_X11_troubleNow_c9 at h
  refine gg_iload hG dX11_troubleNow_9 rfl ?_
  refine gg_bipush (v := 32) hG dX11_troubleNow_11 (by decide) ?_
  refine gg_ic_ge (tgt := 45) hG dX11_troubleNow_13 (by decide) (fun c2 => ?_) (fun c2 => ?_)
  · replace h := h.1 c2
    refine gg_aload_n hG dX11_troubleNow_45 rfl rfl ?_
    refine gg_get (v := .long (u.2 1 12)) hG dX11_troubleNow_46 (by decide) rfl fl_RX11_135 rfl ?_
    refine gg_lconst (v := 0) hG dX11_troubleNow_49 (by decide) ?_
    refine gg_lcmp hG dX11_troubleNow_50 ?_
    refine gg_if_ne (tgt := 62) hG dX11_troubleNow_51 (by decide) (fun c3 => ?_) (fun c3 => ?_)
    · replace h := h.1 c3
      refine gg_lload_n hG dX11_troubleNow_62 rfl rfl ?_
      refine gg_aload_n hG dX11_troubleNow_63 rfl rfl ?_
      refine gg_get (v := .long (u.2 1 12)) hG dX11_troubleNow_64 (by decide) rfl fl_RX11_135 rfl ?_
      refine gg_iload_n hG dX11_troubleNow_67 rfl rfl ?_
      refine gg_xs (As := [.long a3, .long (u.2 1 12), .int a2]) (st := []) hG dX11_troubleNow_68 ml_RX11_163 Y_X11_lowest YS_X11_lowest (mt_X11_lowest h) rfl (by decide) (Nat.le_of_ble_eq_true rfl) rfl (gg_kj (fun v5 u4 h => ?_))
      refine gg_mk hG [false, false, false, false, false, false] rfl ?_
      exact m_X11_troubleNow_c71 hG h
    · replace h := h.2 c3
      refine gg_bipush (v := (-3)) hG dX11_troubleNow_54 (by decide) ?_
      refine gg_xs (As := [.int (-3)]) (st := []) hG dX11_troubleNow_56 ml_RX11_160 Y_X11_no YS_X11_no (mt_X11_no h) rfl (by decide) (Nat.le_of_ble_eq_true rfl) rfl (gg_kj (fun v7 u6 h => ?_))
      refine gg_goto (tgt := 71) hG dX11_troubleNow_59 (by decide) ?_
      refine gg_mk hG [false, false, false, false, false, false] rfl ?_
      exact m_X11_troubleNow_c71 hG h
  · replace h := h.2 c2
    refine gg_lload_n hG dX11_troubleNow_16 rfl rfl ?_
    refine gg_iload hG dX11_troubleNow_17 rfl ?_
    refine gg_iload_n hG dX11_troubleNow_19 rfl rfl ?_
    refine gg_xs (As := [.int a5, .int a1]) (st := [.long a3]) hG dX11_troubleNow_20 ml_RX11_119 Y_X11_isIn YS_X11_isIn (mt_X11_isIn h) rfl (by decide) (Nat.le_of_ble_eq_true rfl) rfl (gg_ki (fun v9 u8 h => ?_))
    refine gg_if_eq (tgt := 36) hG dX11_troubleNow_23 (by decide) (fun c10 => ?_) (fun c10 => ?_)
    · replace h := h.1 c10
      refine gg_lconst (v := 0) hG dX11_troubleNow_36 (by decide) ?_
      refine gg_mk hG [true, true, true, false, false, true] rfl ?_
      exact m_X11_troubleNow_c37 hG h hk9
    · replace h := h.2 c10
      refine gg_aload_n hG dX11_troubleNow_26 rfl rfl ?_
      refine gg_get (v := .ref 55) hG dX11_troubleNow_27 (by decide) rfl fl_RX11_34 rfl ?_
      refine gg_iload hG dX11_troubleNow_30 rfl ?_
      obtain ⟨h11, h⟩ := h
      refine gg_lald (j := a5.toNatClampNeg) hG dX11_troubleNow_32 (by decide) rfl h11 rfl ?_
      refine gg_goto (tgt := 37) hG dX11_troubleNow_33 (by decide) ?_
      refine gg_mk hG [true, true, true, false, false, true] rfl ?_
      exact m_X11_troubleNow_c37 hG h hk9
def w_X11_troubleNow_c9 (a1 : Int32) (a2 : Int32) (a3 : Int64) (a5 : Int32) (u : gg_M)  (Q : Int64 → gg_M → Prop) : Prop :=
  gg_loop (fun (s : Int64 × Int32 × gg_M) k9 => b_X11_troubleNow_c9 a1 a2 s.1 s.2.1 s.2.2  k9 Q) (a3, a5, u)
set_option maxRecDepth 10000 in
theorem m_X11_troubleNow_c9 {a1 : Int32} {a2 : Int32} {a3 : Int64} {a5 : Int32} {u : gg_M}  {G : gg_T} {Q : Int64 → gg_M → Prop} (hG : gg_Cl none cX11_troubleNow 6 RX11 (some .long) 5 (gg_eJ Q) G)  (h : w_X11_troubleNow_c9 a1 a2 a3 a5 u  Q)   : G 9 [some (.ref 1), some (.int a1), some (.int a2), some (.long a3), none, some (.int a5)] [] u :=
  gg_loop_use (P := fun s : Int64 × Int32 × gg_M => G 9 [some (.ref 1), some (.int a1), some (.int a2), some (.long s.1), none, some (.int s.2.1)] [] s.2.2) h (fun s rc hb hr => mb_X11_troubleNow_c9 hG  hb   hr)
def w_X11_troubleNow (a1 : Int32) (a2 : Int32) (u : gg_M)  (Q : Int64 → gg_M → Prop) : Prop :=
  w_X11_lays u (fun u12 =>
  w_X11_troubleNow_c9 a1 a2 0 0 u12 Q)
set_option maxRecDepth 10000 in
theorem m_X11_troubleNow {a1 : Int32} {a2 : Int32} {u : gg_M}  {G : gg_T} {Q : Int64 → gg_M → Prop} (hG : gg_Cl none cX11_troubleNow 6 RX11 (some .long) 5 (gg_eJ Q) G)  (h : w_X11_troubleNow a1 a2 u  Q)   : G 0 [some (.ref 1), some (.int a1), some (.int a2), none, none, none] [] u := by
  unfold w_X11_troubleNow at h
  refine gg_aload_n hG dX11_troubleNow_0 rfl rfl ?_
  refine gg_xv (As := []) (st := []) hG dX11_troubleNow_1 ml_RX11_151 Y_X11_lays YV_X11_lays (by decide) ⟨_, rfl, rfl⟩ (mt_X11_lays h) rfl (by decide) (Nat.le_of_ble_eq_true rfl) rfl (gg_kv (fun u12 h => ?_))
  refine gg_lconst (v := 0) hG dX11_troubleNow_4 (by decide) ?_
  refine gg_lstore_n (L1 := [some (.ref 1), some (.int a1), some (.int a2), some (.long 0), none, none]) hG dX11_troubleNow_5 rfl (by decide) rfl ?_
  refine gg_iconst (v := 0) hG dX11_troubleNow_6 (by decide) ?_
  refine gg_istore (L1 := [some (.ref 1), some (.int a1), some (.int a2), some (.long 0), none, some (.int 0)]) hG dX11_troubleNow_7 (by decide) rfl ?_
  exact m_X11_troubleNow_c9 hG h
theorem mt_X11_troubleNow {a1 : Int32} {a2 : Int32}  {u : gg_M} {Q : Int64 → gg_M → Prop} (h : w_X11_troubleNow a1 a2 u Q) : gg_Mt 5 yX11_troubleNow cX11_troubleNow 6 (some .long) [.ref 1, .int a1, .int a2] u (gg_eJ Q) :=
  gg_intro (own := RX11) (by decide +kernel) rfl rfl (Nat.le_of_ble_eq_true rfl) (fun G hG => m_X11_troubleNow hG  h)
/-! X11_trouble -/
def w_X11_trouble_c32 (z0 : Int64) (u : gg_M)  (Q : Int64 → gg_M → Prop) : Prop :=
  Q z0 u
set_option maxRecDepth 10000 in
theorem m_X11_trouble_c32 {z0 : Int64} {u : gg_M}  {G : gg_T} {Q : Int64 → gg_M → Prop} (hG : gg_Cl none cX11_trouble 3 RX11 (some .long) 6 (gg_eJ Q) G)  (h : w_X11_trouble_c32 z0 u  Q)   : G 32 [none, none, none] [.long z0] u := by
  unfold w_X11_trouble_c32 at h
  exact gg_lret hG dX11_trouble_32 rfl ⟨_, rfl, h⟩
def w_X11_trouble_c27  (u : gg_M)  (Q : Int64 → gg_M → Prop) : Prop :=
  w_X11_no (-2) u (fun v2 u1 =>
  w_X11_trouble_c32 v2 u1 Q)
set_option maxRecDepth 10000 in
theorem m_X11_trouble_c27  {u : gg_M}  {G : gg_T} {Q : Int64 → gg_M → Prop} (hG : gg_Cl none cX11_trouble 3 RX11 (some .long) 6 (gg_eJ Q) G)  (h : w_X11_trouble_c27  u  Q)   : G 27 [none, none, none] [] u := by
  unfold w_X11_trouble_c27 at h
  refine gg_bipush (v := (-2)) hG dX11_trouble_27 (by decide) ?_
  refine gg_xs (As := [.int (-2)]) (st := []) hG dX11_trouble_29 ml_RX11_160 Y_X11_no YS_X11_no (mt_X11_no h) rfl (by decide) (Nat.le_of_ble_eq_true rfl) rfl (gg_kj (fun v2 u1 h => ?_))
  exact m_X11_trouble_c32 hG h
def w_X11_trouble (a1 : Int32) (a2 : Int32) (u : gg_M)  (Q : Int64 → gg_M → Prop) : Prop :=
  w_X11_in a1 0 4 u (fun v4 u3 =>
  (v4 = 0 →
   w_X11_trouble_c27 u3 Q) ∧
  (¬ v4 = 0 →
   w_X11_in a2 0 1 u3 (fun v7 u6 =>
   (v7 = 0 →
    w_X11_trouble_c27 u6 Q) ∧
   (¬ v7 = 0 →
    w_X11_troubleNow a1 a2 u6 (fun v10 u9 =>
    w_X11_trouble_c32 v10 u9 Q)))))
set_option maxRecDepth 10000 in
theorem m_X11_trouble {a1 : Int32} {a2 : Int32} {u : gg_M}  {G : gg_T} {Q : Int64 → gg_M → Prop} (hG : gg_Cl none cX11_trouble 3 RX11 (some .long) 6 (gg_eJ Q) G)  (h : w_X11_trouble a1 a2 u  Q)   : G 0 [some (.ref 1), some (.int a1), some (.int a2)] [] u := by
  unfold w_X11_trouble at h
  refine gg_iload_n hG dX11_trouble_0 rfl rfl ?_
  refine gg_iconst (v := 0) hG dX11_trouble_1 (by decide) ?_
  refine gg_iconst (v := 4) hG dX11_trouble_2 (by decide) ?_
  refine gg_xs (As := [.int a1, .int 0, .int 4]) (st := []) hG dX11_trouble_3 ml_RX11_68 Y_X11_in YS_X11_in (mt_X11_in h) rfl (by decide) (Nat.le_of_ble_eq_true rfl) rfl (gg_ki (fun v4 u3 h => ?_))
  refine gg_if_eq (tgt := 27) hG dX11_trouble_6 (by decide) (fun c5 => ?_) (fun c5 => ?_)
  · replace h := h.1 c5
    refine gg_mk hG [false, false, false] rfl ?_
    exact m_X11_trouble_c27 hG h
  · replace h := h.2 c5
    refine gg_iload_n hG dX11_trouble_9 rfl rfl ?_
    refine gg_iconst (v := 0) hG dX11_trouble_10 (by decide) ?_
    refine gg_iconst (v := 1) hG dX11_trouble_11 (by decide) ?_
    refine gg_xs (As := [.int a2, .int 0, .int 1]) (st := []) hG dX11_trouble_12 ml_RX11_68 Y_X11_in YS_X11_in (mt_X11_in h) rfl (by decide) (Nat.le_of_ble_eq_true rfl) rfl (gg_ki (fun v7 u6 h => ?_))
    refine gg_if_eq (tgt := 27) hG dX11_trouble_15 (by decide) (fun c8 => ?_) (fun c8 => ?_)
    · replace h := h.1 c8
      refine gg_mk hG [false, false, false] rfl ?_
      exact m_X11_trouble_c27 hG h
    · replace h := h.2 c8
      refine gg_aload_n hG dX11_trouble_18 rfl rfl ?_
      refine gg_iload_n hG dX11_trouble_19 rfl rfl ?_
      refine gg_iload_n hG dX11_trouble_20 rfl rfl ?_
      refine gg_xv (As := [.int a1, .int a2]) (st := []) hG dX11_trouble_21 ml_RX11_167 Y_X11_troubleNow YV_X11_troubleNow (by decide) ⟨_, rfl, rfl⟩ (mt_X11_troubleNow h) rfl (by decide) (Nat.le_of_ble_eq_true rfl) rfl (gg_kj (fun v10 u9 h => ?_))
      refine gg_goto (tgt := 32) hG dX11_trouble_24 (by decide) ?_
      refine gg_mk hG [false, false, false] rfl ?_
      exact m_X11_trouble_c32 hG h
theorem mt_X11_trouble {a1 : Int32} {a2 : Int32}  {u : gg_M} {Q : Int64 → gg_M → Prop} (h : w_X11_trouble a1 a2 u Q) : gg_Mt 6 yX11_trouble cX11_trouble 3 (some .long) [.ref 1, .int a1, .int a2] u (gg_eJ Q) :=
  gg_intro (own := RX11) (by decide +kernel) rfl rfl (Nat.le_of_ble_eq_true rfl) (fun G hG => m_X11_trouble hG  h)
/-! X11_stateNow -/
def w_X11_stateNow (a1 : Int32) (a2 : Int32) (u : gg_M)  (Q : Int32 → gg_M → Prop) : Prop :=
  w_X11_lays u (fun u1 =>
  vp_in (((8 : Int32) * a1) + a2) 1024 ∧
  Q (u1.1 51 ((((8 : Int32) * a1) + a2).toNatClampNeg)) u1)
set_option maxRecDepth 10000 in
theorem m_X11_stateNow {a1 : Int32} {a2 : Int32} {u : gg_M}  {G : gg_T} {Q : Int32 → gg_M → Prop} (hG : gg_Cl none cX11_stateNow 3 RX11 (some .int) 5 (gg_eI Q) G)  (h : w_X11_stateNow a1 a2 u  Q)   : G 0 [some (.ref 1), some (.int a1), some (.int a2)] [] u := by
  unfold w_X11_stateNow at h
  refine gg_aload_n hG dX11_stateNow_0 rfl rfl ?_
  refine gg_xv (As := []) (st := []) hG dX11_stateNow_1 ml_RX11_151 Y_X11_lays YV_X11_lays (by decide) ⟨_, rfl, rfl⟩ (mt_X11_lays h) rfl (by decide) (Nat.le_of_ble_eq_true rfl) rfl (gg_kv (fun u1 h => ?_))
  refine gg_aload_n hG dX11_stateNow_4 rfl rfl ?_
  refine gg_get (v := .ref 51) hG dX11_stateNow_5 (by decide) rfl fl_RX11_22 rfl ?_
  refine gg_bipush (v := 8) hG dX11_stateNow_8 (by decide) ?_
  refine gg_iload_n hG dX11_stateNow_10 rfl rfl ?_
  refine gg_imul hG dX11_stateNow_11 ?_
  refine gg_iload_n hG dX11_stateNow_12 rfl rfl ?_
  refine gg_iadd hG dX11_stateNow_13 ?_
  obtain ⟨h2, h⟩ := h
  refine gg_iald (j := (((8 : Int32) * a1) + a2).toNatClampNeg) hG dX11_stateNow_14 (by decide) rfl h2 rfl ?_
  exact gg_iret hG dX11_stateNow_15 rfl rfl ⟨_, rfl, h⟩
theorem mt_X11_stateNow {a1 : Int32} {a2 : Int32}  {u : gg_M} {Q : Int32 → gg_M → Prop} (h : w_X11_stateNow a1 a2 u Q) : gg_Mt 5 yX11_stateNow cX11_stateNow 3 (some .int) [.ref 1, .int a1, .int a2] u (gg_eI Q) :=
  gg_intro (own := RX11) (by decide +kernel) rfl rfl (Nat.le_of_ble_eq_true rfl) (fun G hG => m_X11_stateNow hG  h)
/-! X11_state -/
def w_X11_state_c28 (z0 : Int32) (u : gg_M)  (Q : Int32 → gg_M → Prop) : Prop :=
  Q z0 u
set_option maxRecDepth 10000 in
theorem m_X11_state_c28 {z0 : Int32} {u : gg_M}  {G : gg_T} {Q : Int32 → gg_M → Prop} (hG : gg_Cl none cX11_state 3 RX11 (some .int) 6 (gg_eI Q) G)  (h : w_X11_state_c28 z0 u  Q)   : G 28 [none, none, none] [.int z0] u := by
  unfold w_X11_state_c28 at h
  exact gg_iret hG dX11_state_28 rfl rfl ⟨_, rfl, h⟩
def w_X11_state_c26  (u : gg_M)  (Q : Int32 → gg_M → Prop) : Prop :=
  w_X11_state_c28 (-2) u Q
set_option maxRecDepth 10000 in
theorem m_X11_state_c26  {u : gg_M}  {G : gg_T} {Q : Int32 → gg_M → Prop} (hG : gg_Cl none cX11_state 3 RX11 (some .int) 6 (gg_eI Q) G)  (h : w_X11_state_c26  u  Q)   : G 26 [none, none, none] [] u := by
  unfold w_X11_state_c26 at h
  refine gg_bipush (v := (-2)) hG dX11_state_26 (by decide) ?_
  exact m_X11_state_c28 hG h
def w_X11_state (a1 : Int32) (a2 : Int32) (u : gg_M)  (Q : Int32 → gg_M → Prop) : Prop :=
  w_X11_isSet a1 u (fun v2 u1 =>
  (v2 = 0 →
   w_X11_state_c26 u1 Q) ∧
  (¬ v2 = 0 →
   w_X11_in a2 0 7 u1 (fun v5 u4 =>
   (v5 = 0 →
    w_X11_state_c26 u4 Q) ∧
   (¬ v5 = 0 →
    w_X11_stateNow a1 a2 u4 (fun v8 u7 =>
    w_X11_state_c28 v8 u7 Q)))))
set_option maxRecDepth 10000 in
theorem m_X11_state {a1 : Int32} {a2 : Int32} {u : gg_M}  {G : gg_T} {Q : Int32 → gg_M → Prop} (hG : gg_Cl none cX11_state 3 RX11 (some .int) 6 (gg_eI Q) G)  (h : w_X11_state a1 a2 u  Q)   : G 0 [some (.ref 1), some (.int a1), some (.int a2)] [] u := by
  unfold w_X11_state at h
  refine gg_iload_n hG dX11_state_0 rfl rfl ?_
  refine gg_xs (As := [.int a1]) (st := []) hG dX11_state_1 ml_RX11_157 Y_X11_isSet YS_X11_isSet (mt_X11_isSet h) rfl (by decide) (Nat.le_of_ble_eq_true rfl) rfl (gg_ki (fun v2 u1 h => ?_))
  refine gg_if_eq (tgt := 26) hG dX11_state_4 (by decide) (fun c3 => ?_) (fun c3 => ?_)
  · replace h := h.1 c3
    refine gg_mk hG [false, false, false] rfl ?_
    exact m_X11_state_c26 hG h
  · replace h := h.2 c3
    refine gg_iload_n hG dX11_state_7 rfl rfl ?_
    refine gg_iconst (v := 0) hG dX11_state_8 (by decide) ?_
    refine gg_bipush (v := 7) hG dX11_state_9 (by decide) ?_
    refine gg_xs (As := [.int a2, .int 0, .int 7]) (st := []) hG dX11_state_11 ml_RX11_68 Y_X11_in YS_X11_in (mt_X11_in h) rfl (by decide) (Nat.le_of_ble_eq_true rfl) rfl (gg_ki (fun v5 u4 h => ?_))
    refine gg_if_eq (tgt := 26) hG dX11_state_14 (by decide) (fun c6 => ?_) (fun c6 => ?_)
    · replace h := h.1 c6
      refine gg_mk hG [false, false, false] rfl ?_
      exact m_X11_state_c26 hG h
    · replace h := h.2 c6
      refine gg_aload_n hG dX11_state_17 rfl rfl ?_
      refine gg_iload_n hG dX11_state_18 rfl rfl ?_
      refine gg_iload_n hG dX11_state_19 rfl rfl ?_
      refine gg_xv (As := [.int a1, .int a2]) (st := []) hG dX11_state_20 ml_RX11_171 Y_X11_stateNow YV_X11_stateNow (by decide) ⟨_, rfl, rfl⟩ (mt_X11_stateNow h) rfl (by decide) (Nat.le_of_ble_eq_true rfl) rfl (gg_ki (fun v8 u7 h => ?_))
      refine gg_goto (tgt := 28) hG dX11_state_23 (by decide) ?_
      refine gg_mk hG [false, false, false] rfl ?_
      exact m_X11_state_c28 hG h
theorem mt_X11_state {a1 : Int32} {a2 : Int32}  {u : gg_M} {Q : Int32 → gg_M → Prop} (h : w_X11_state a1 a2 u Q) : gg_Mt 6 yX11_state cX11_state 3 (some .int) [.ref 1, .int a1, .int a2] u (gg_eI Q) :=
  gg_intro (own := RX11) (by decide +kernel) rfl rfl (Nat.le_of_ble_eq_true rfl) (fun G hG => m_X11_state hG  h)
/-! X11_sign -/
def w_X11_sign_c17  (u : gg_M)  (Q : Int32 → gg_M → Prop) : Prop :=
  Q (-2) u
set_option maxRecDepth 10000 in
theorem m_X11_sign_c17  {u : gg_M}  {G : gg_T} {Q : Int32 → gg_M → Prop} (hG : gg_Cl none cX11_sign 3 RX11 (some .int) 5 (gg_eI Q) G)  (h : w_X11_sign_c17  u  Q)   : G 17 [none, none, none] [] u := by
  unfold w_X11_sign_c17 at h
  refine gg_bipush (v := (-2)) hG dX11_sign_17 (by decide) ?_
  exact gg_iret hG dX11_sign_19 rfl rfl ⟨_, rfl, h⟩
def w_X11_sign (a1 : Int32) (a2 : Int32) (u : gg_M)  (Q : Int32 → gg_M → Prop) : Prop :=
  w_X11_isSet a1 u (fun v2 u1 =>
  (v2 = 0 →
   w_X11_sign_c17 u1 Q) ∧
  (¬ v2 = 0 →
   w_X11_in a2 0 9 u1 (fun v5 u4 =>
   (¬ v5 = 0 →
    w_X11_lays u4 (fun u7 =>
    w_X11_does 0 a1 a2 u7 (fun v9 u8 =>
    Q v9 u8))) ∧
   (v5 = 0 →
    w_X11_sign_c17 u4 Q))))
set_option maxRecDepth 10000 in
theorem m_X11_sign {a1 : Int32} {a2 : Int32} {u : gg_M}  {G : gg_T} {Q : Int32 → gg_M → Prop} (hG : gg_Cl none cX11_sign 3 RX11 (some .int) 5 (gg_eI Q) G)  (h : w_X11_sign a1 a2 u  Q)   : G 0 [some (.ref 1), some (.int a1), some (.int a2)] [] u := by
  unfold w_X11_sign at h
  refine gg_iload_n hG dX11_sign_0 rfl rfl ?_
  refine gg_xs (As := [.int a1]) (st := []) hG dX11_sign_1 ml_RX11_157 Y_X11_isSet YS_X11_isSet (mt_X11_isSet h) rfl (by decide) (Nat.le_of_ble_eq_true rfl) rfl (gg_ki (fun v2 u1 h => ?_))
  refine gg_if_eq (tgt := 17) hG dX11_sign_4 (by decide) (fun c3 => ?_) (fun c3 => ?_)
  · replace h := h.1 c3
    refine gg_mk hG [false, false, false] rfl ?_
    exact m_X11_sign_c17 hG h
  · replace h := h.2 c3
    refine gg_iload_n hG dX11_sign_7 rfl rfl ?_
    refine gg_iconst (v := 0) hG dX11_sign_8 (by decide) ?_
    refine gg_bipush (v := 9) hG dX11_sign_9 (by decide) ?_
    refine gg_xs (As := [.int a2, .int 0, .int 9]) (st := []) hG dX11_sign_11 ml_RX11_68 Y_X11_in YS_X11_in (mt_X11_in h) rfl (by decide) (Nat.le_of_ble_eq_true rfl) rfl (gg_ki (fun v5 u4 h => ?_))
    refine gg_if_ne (tgt := 20) hG dX11_sign_14 (by decide) (fun c6 => ?_) (fun c6 => ?_)
    · replace h := h.1 c6
      refine gg_aload_n hG dX11_sign_20 rfl rfl ?_
      refine gg_xv (As := []) (st := []) hG dX11_sign_21 ml_RX11_151 Y_X11_lays YV_X11_lays (by decide) ⟨_, rfl, rfl⟩ (mt_X11_lays h) rfl (by decide) (Nat.le_of_ble_eq_true rfl) rfl (gg_kv (fun u7 h => ?_))
      refine gg_aload_n hG dX11_sign_24 rfl rfl ?_
      refine gg_iconst (v := 0) hG dX11_sign_25 (by decide) ?_
      refine gg_iload_n hG dX11_sign_26 rfl rfl ?_
      refine gg_iload_n hG dX11_sign_27 rfl rfl ?_
      refine gg_xv (As := [.int 0, .int a1, .int a2]) (st := []) hG dX11_sign_28 ml_RX11_143 Y_X11_does YV_X11_does (by decide) ⟨_, rfl, rfl⟩ (mt_X11_does h) rfl (by decide) (Nat.le_of_ble_eq_true rfl) rfl (gg_ki (fun v9 u8 h => ?_))
      exact gg_iret hG dX11_sign_31 rfl rfl ⟨_, rfl, h⟩
    · replace h := h.2 c6
      refine gg_mk hG [false, false, false] rfl ?_
      exact m_X11_sign_c17 hG h
theorem mt_X11_sign {a1 : Int32} {a2 : Int32}  {u : gg_M} {Q : Int32 → gg_M → Prop} (h : w_X11_sign a1 a2 u Q) : gg_Mt 5 yX11_sign cX11_sign 3 (some .int) [.ref 1, .int a1, .int a2] u (gg_eI Q) :=
  gg_intro (own := RX11) (by decide +kernel) rfl rfl (Nat.le_of_ble_eq_true rfl) (fun G hG => m_X11_sign hG  h)
/-! X11_goesOn -/
def w_X11_goesOn_c51 (a1 : Int32) (a2 : Int32) (a3 : Int32) (a4 : Int32) (u : gg_M) (k3 : Int32 × gg_M → Prop) (Q : gg_M → Prop) : Prop :=
  k3 ((a4 + 1), u)
set_option maxRecDepth 10000 in
theorem m_X11_goesOn_c51 {a1 : Int32} {a2 : Int32} {a3 : Int32} {a4 : Int32} {u : gg_M} {k3 : Int32 × gg_M → Prop} {G : gg_T} {Q : gg_M → Prop} (hG : gg_Cl none cX11_goesOn 5 RX11 none 4 (gg_eV Q) G)  (h : w_X11_goesOn_c51 a1 a2 a3 a4 u k3 Q)  (hk3 : ∀ s : Int32 × gg_M, k3 s → G 3 [some (.ref 1), some (.int a1), some (.int a2), some (.int a3), some (.int s.1)] [] s.2) : G 51 [some (.ref 1), some (.int a1), some (.int a2), some (.int a3), some (.int a4)] [] u := by
  unfold w_X11_goesOn_c51 at h
  refine gg_iinc (v := (a4 + 1)) (L1 := [some (.ref 1), some (.int a1), some (.int a2), some (.int a3), some (.int (a4 + 1))]) hG dX11_goesOn_51 rfl rfl (by decide) rfl ?_
  refine gg_goto (tgt := 3) hG dX11_goesOn_54 (by decide) ?_
  exact hk3 _ h
def b_X11_goesOn_c3 (a1 : Int32) (a2 : Int32) (a3 : Int32) (a4 : Int32) (u : gg_M)  (k3 : Int32 × gg_M → Prop) (Q : gg_M → Prop) : Prop :=
  (32 ≤ a4 →
   Q u) ∧
  (¬ 32 ≤ a4 →
   w_X11_isIn a2 a4 u (fun v3 u2 =>
   (v3 = 0 →
    w_X11_goesOn_c51 a1 a2 a3 a4 u2 k3 Q) ∧
   (¬ v3 = 0 →
    w_X11_moves a1 (a1 + 1) a4 u2 (fun u5 =>
    w_X11_does (a1 + 1) a4 a3 u5 (fun v7 u6 =>
    vp_in (((32 : Int32) * a1) + a4) 128 ∧
    ∀ u9 : gg_M, u9 = gg_wI u6 56 ((((32 : Int32) * a1) + a4).toNatClampNeg) v7 →
    w_X11_goesOn_c51 a1 a2 a3 a4 u9 k3 Q)))))
set_option maxRecDepth 10000 in
theorem mb_X11_goesOn_c3 {a1 : Int32} {a2 : Int32} {a3 : Int32} {a4 : Int32} {u : gg_M}  {k3 : Int32 × gg_M → Prop} {G : gg_T} {Q : gg_M → Prop} (hG : gg_Cl none cX11_goesOn 5 RX11 none 4 (gg_eV Q) G)  (h : b_X11_goesOn_c3 a1 a2 a3 a4 u k3 Q)   (hk3 : ∀ s : Int32 × gg_M, k3 s → G 3 [some (.ref 1), some (.int a1), some (.int a2), some (.int a3), some (.int s.1)] [] s.2) : G 3 [some (.ref 1), some (.int a1), some (.int a2), some (.int a3), some (.int a4)] [] u := by
  unfold b_X11_goesOn_c3 at h
  refine gg_iload hG dX11_goesOn_3 rfl ?_
  refine gg_bipush (v := 32) hG dX11_goesOn_5 (by decide) ?_
  refine gg_ic_ge (tgt := 57) hG dX11_goesOn_7 (by decide) (fun c1 => ?_) (fun c1 => ?_)
  · replace h := h.1 c1
    exact gg_vret hG dX11_goesOn_57 rfl ⟨rfl, h⟩
  · replace h := h.2 c1
    refine gg_iload_n hG dX11_goesOn_10 rfl rfl ?_
    refine gg_iload hG dX11_goesOn_11 rfl ?_
    refine gg_xs (As := [.int a2, .int a4]) (st := []) hG dX11_goesOn_13 ml_RX11_119 Y_X11_isIn YS_X11_isIn (mt_X11_isIn h) rfl (by decide) (Nat.le_of_ble_eq_true rfl) rfl (gg_ki (fun v3 u2 h => ?_))
    refine gg_if_eq (tgt := 51) hG dX11_goesOn_16 (by decide) (fun c4 => ?_) (fun c4 => ?_)
    · replace h := h.1 c4
      exact m_X11_goesOn_c51 hG h hk3
    · replace h := h.2 c4
      refine gg_aload_n hG dX11_goesOn_19 rfl rfl ?_
      refine gg_iload_n hG dX11_goesOn_20 rfl rfl ?_
      refine gg_iload_n hG dX11_goesOn_21 rfl rfl ?_
      refine gg_iconst (v := 1) hG dX11_goesOn_22 (by decide) ?_
      refine gg_iadd hG dX11_goesOn_23 ?_
      refine gg_iload hG dX11_goesOn_24 rfl ?_
      refine gg_xv (As := [.int a1, .int (a1 + 1), .int a4]) (st := []) hG dX11_goesOn_26 ml_RX11_174 Y_X11_moves YV_X11_moves (by decide) ⟨_, rfl, rfl⟩ (mt_X11_moves h) rfl (by decide) (Nat.le_of_ble_eq_true rfl) rfl (gg_kv (fun u5 h => ?_))
      refine gg_aload_n hG dX11_goesOn_29 rfl rfl ?_
      refine gg_get (v := .ref 56) hG dX11_goesOn_30 (by decide) rfl fl_RX11_38 rfl ?_
      refine gg_bipush (v := 32) hG dX11_goesOn_33 (by decide) ?_
      refine gg_iload_n hG dX11_goesOn_35 rfl rfl ?_
      refine gg_imul hG dX11_goesOn_36 ?_
      refine gg_iload hG dX11_goesOn_37 rfl ?_
      refine gg_iadd hG dX11_goesOn_39 ?_
      refine gg_aload_n hG dX11_goesOn_40 rfl rfl ?_
      refine gg_iload_n hG dX11_goesOn_41 rfl rfl ?_
      refine gg_iconst (v := 1) hG dX11_goesOn_42 (by decide) ?_
      refine gg_iadd hG dX11_goesOn_43 ?_
      refine gg_iload hG dX11_goesOn_44 rfl ?_
      refine gg_iload_n hG dX11_goesOn_46 rfl rfl ?_
      refine gg_xv (As := [.int (a1 + 1), .int a4, .int a3]) (st := [.int (((32 : Int32) * a1) + a4), .ref 56]) hG dX11_goesOn_47 ml_RX11_143 Y_X11_does YV_X11_does (by decide) ⟨_, rfl, rfl⟩ (mt_X11_does h) rfl (by decide) (Nat.le_of_ble_eq_true rfl) rfl (gg_ki (fun v7 u6 h => ?_))
      obtain ⟨h8, h⟩ := h
      refine gg_iast (j := (((32 : Int32) * a1) + a4).toNatClampNeg) hG dX11_goesOn_50 (by decide) rfl h8 rfl ?_
      refine gg_nu (fun u9 eu9 => ?_)
      replace h := h u9 eu9
      exact m_X11_goesOn_c51 hG h hk3
def w_X11_goesOn_c3 (a1 : Int32) (a2 : Int32) (a3 : Int32) (a4 : Int32) (u : gg_M)  (Q : gg_M → Prop) : Prop :=
  gg_loop (fun (s : Int32 × gg_M) k3 => b_X11_goesOn_c3 a1 a2 a3 s.1 s.2  k3 Q) (a4, u)
set_option maxRecDepth 10000 in
theorem m_X11_goesOn_c3 {a1 : Int32} {a2 : Int32} {a3 : Int32} {a4 : Int32} {u : gg_M}  {G : gg_T} {Q : gg_M → Prop} (hG : gg_Cl none cX11_goesOn 5 RX11 none 4 (gg_eV Q) G)  (h : w_X11_goesOn_c3 a1 a2 a3 a4 u  Q)   : G 3 [some (.ref 1), some (.int a1), some (.int a2), some (.int a3), some (.int a4)] [] u :=
  gg_loop_use (P := fun s : Int32 × gg_M => G 3 [some (.ref 1), some (.int a1), some (.int a2), some (.int a3), some (.int s.1)] [] s.2) h (fun s rc hb hr => mb_X11_goesOn_c3 hG  hb   hr)
def w_X11_goesOn (a1 : Int32) (a2 : Int32) (a3 : Int32) (u : gg_M)  (Q : gg_M → Prop) : Prop :=
  w_X11_goesOn_c3 a1 a2 a3 0 u Q
set_option maxRecDepth 10000 in
theorem m_X11_goesOn {a1 : Int32} {a2 : Int32} {a3 : Int32} {u : gg_M}  {G : gg_T} {Q : gg_M → Prop} (hG : gg_Cl none cX11_goesOn 5 RX11 none 4 (gg_eV Q) G)  (h : w_X11_goesOn a1 a2 a3 u  Q)   : G 0 [some (.ref 1), some (.int a1), some (.int a2), some (.int a3), none] [] u := by
  unfold w_X11_goesOn at h
  refine gg_iconst (v := 0) hG dX11_goesOn_0 (by decide) ?_
  refine gg_istore (L1 := [some (.ref 1), some (.int a1), some (.int a2), some (.int a3), some (.int 0)]) hG dX11_goesOn_1 (by decide) rfl ?_
  exact m_X11_goesOn_c3 hG h
theorem mt_X11_goesOn {a1 : Int32} {a2 : Int32} {a3 : Int32}  {u : gg_M} {Q : gg_M → Prop} (h : w_X11_goesOn a1 a2 a3 u Q) : gg_Mt 4 yX11_goesOn cX11_goesOn 5 none [.ref 1, .int a1, .int a2, .int a3] u (gg_eV Q) :=
  gg_intro (own := RX11) (by decide +kernel) rfl rfl (Nat.le_of_ble_eq_true rfl) (fun G hG => m_X11_goesOn hG  h)
/-! X11_groupBy -/
def w_X11_groupBy_c48 (a1 : Int32) (a2 : Int32) (a3 : Int32) (a5 : Int32) (z0 : Int32) (z1 : Int32) (u : gg_M) (k6 : Int32 × Int32 × gg_M → Prop) (Q : Int32 → gg_M → Prop) : Prop :=
  ∀ v1 : Int32, v1 = (z0 ||| z1) →
  k6 (v1, (a5 + 1), u)
set_option maxRecDepth 10000 in
theorem m_X11_groupBy_c48 {a1 : Int32} {a2 : Int32} {a3 : Int32} {a5 : Int32} {z0 : Int32} {z1 : Int32} {u : gg_M} {k6 : Int32 × Int32 × gg_M → Prop} {G : gg_T} {Q : Int32 → gg_M → Prop} (hG : gg_Cl none cX11_groupBy 6 RX11 (some .int) 2 (gg_eI Q) G)  (h : w_X11_groupBy_c48 a1 a2 a3 a5 z0 z1 u k6 Q)  (hk6 : ∀ s : Int32 × Int32 × gg_M, k6 s → G 6 [some (.ref 1), some (.int a1), some (.int a2), some (.int a3), some (.int s.1), some (.int s.2.1)] [] s.2.2) : G 48 [some (.ref 1), some (.int a1), some (.int a2), some (.int a3), none, some (.int a5)] [.int z1, .int z0] u := by
  unfold w_X11_groupBy_c48 at h
  refine gg_ior hG dX11_groupBy_48 ?_
  refine gg_ni (fun v1 e1 => ?_)
  replace h := h v1 e1
  refine gg_istore (L1 := [some (.ref 1), some (.int a1), some (.int a2), some (.int a3), some (.int v1), some (.int a5)]) hG dX11_groupBy_49 (by decide) rfl ?_
  refine gg_iinc (v := (a5 + 1)) (L1 := [some (.ref 1), some (.int a1), some (.int a2), some (.int a3), some (.int v1), some (.int (a5 + 1))]) hG dX11_groupBy_51 rfl rfl (by decide) rfl ?_
  refine gg_goto (tgt := 6) hG dX11_groupBy_54 (by decide) ?_
  exact hk6 _ h
def w_X11_groupBy_c47 (a1 : Int32) (a2 : Int32) (a3 : Int32) (a5 : Int32) (z0 : Int32) (u : gg_M) (k6 : Int32 × Int32 × gg_M → Prop) (Q : Int32 → gg_M → Prop) : Prop :=
  w_X11_groupBy_c48 a1 a2 a3 a5 z0 0 u k6 Q
set_option maxRecDepth 10000 in
theorem m_X11_groupBy_c47 {a1 : Int32} {a2 : Int32} {a3 : Int32} {a5 : Int32} {z0 : Int32} {u : gg_M} {k6 : Int32 × Int32 × gg_M → Prop} {G : gg_T} {Q : Int32 → gg_M → Prop} (hG : gg_Cl none cX11_groupBy 6 RX11 (some .int) 2 (gg_eI Q) G)  (h : w_X11_groupBy_c47 a1 a2 a3 a5 z0 u k6 Q)  (hk6 : ∀ s : Int32 × Int32 × gg_M, k6 s → G 6 [some (.ref 1), some (.int a1), some (.int a2), some (.int a3), some (.int s.1), some (.int s.2.1)] [] s.2.2) : G 47 [some (.ref 1), some (.int a1), some (.int a2), some (.int a3), none, some (.int a5)] [.int z0] u := by
  unfold w_X11_groupBy_c47 at h
  refine gg_iconst (v := 0) hG dX11_groupBy_47 (by decide) ?_
  exact m_X11_groupBy_c48 hG h hk6
def b_X11_groupBy_c6 (a1 : Int32) (a2 : Int32) (a3 : Int32) (a4 : Int32) (a5 : Int32) (u : gg_M)  (k6 : Int32 × Int32 × gg_M → Prop) (Q : Int32 → gg_M → Prop) : Prop :=
  (32 ≤ a5 →
   Q a4 u) ∧
  (¬ 32 ≤ a5 →
   w_X11_isIn a2 a5 u (fun v4 u3 =>
   (v4 = 0 →
    w_X11_groupBy_c47 a1 a2 a3 a5 a4 u3 k6 Q) ∧
   (¬ v4 = 0 →
    vp_in (((32 : Int32) * a1) + a5) 128 ∧
    (¬ (u3.1 56 ((((32 : Int32) * a1) + a5).toNatClampNeg)) = a3 →
     w_X11_groupBy_c47 a1 a2 a3 a5 a4 u3 k6 Q) ∧
    ((u3.1 56 ((((32 : Int32) * a1) + a5).toNatClampNeg)) = a3 →
     w_X11_groupBy_c48 a1 a2 a3 a5 a4 ((1 : Int32) <<< (a5 &&& 31)) u3 k6 Q))))
set_option maxRecDepth 10000 in
theorem mb_X11_groupBy_c6 {a1 : Int32} {a2 : Int32} {a3 : Int32} {a4 : Int32} {a5 : Int32} {u : gg_M}  {k6 : Int32 × Int32 × gg_M → Prop} {G : gg_T} {Q : Int32 → gg_M → Prop} (hG : gg_Cl none cX11_groupBy 6 RX11 (some .int) 2 (gg_eI Q) G)  (h : b_X11_groupBy_c6 a1 a2 a3 a4 a5 u k6 Q)   (hk6 : ∀ s : Int32 × Int32 × gg_M, k6 s → G 6 [some (.ref 1), some (.int a1), some (.int a2), some (.int a3), some (.int s.1), some (.int s.2.1)] [] s.2.2) : G 6 [some (.ref 1), some (.int a1), some (.int a2), some (.int a3), some (.int a4), some (.int a5)] [] u := by
  unfold b_X11_groupBy_c6 at h
  refine gg_iload hG dX11_groupBy_6 rfl ?_
  refine gg_bipush (v := 32) hG dX11_groupBy_8 (by decide) ?_
  refine gg_ic_ge (tgt := 57) hG dX11_groupBy_10 (by decide) (fun c2 => ?_) (fun c2 => ?_)
  · replace h := h.1 c2
    refine gg_iload hG dX11_groupBy_57 rfl ?_
    exact gg_iret hG dX11_groupBy_59 rfl rfl ⟨_, rfl, h⟩
  · replace h := h.2 c2
    refine gg_iload hG dX11_groupBy_13 rfl ?_
    refine gg_iload_n hG dX11_groupBy_15 rfl rfl ?_
    refine gg_iload hG dX11_groupBy_16 rfl ?_
    refine gg_xs (As := [.int a2, .int a5]) (st := [.int a4]) hG dX11_groupBy_18 ml_RX11_119 Y_X11_isIn YS_X11_isIn (mt_X11_isIn h) rfl (by decide) (Nat.le_of_ble_eq_true rfl) rfl (gg_ki (fun v4 u3 h => ?_))
    refine gg_if_eq (tgt := 47) hG dX11_groupBy_21 (by decide) (fun c5 => ?_) (fun c5 => ?_)
    · replace h := h.1 c5
      refine gg_mk hG [true, true, true, true, false, true] rfl ?_
      exact m_X11_groupBy_c47 hG h hk6
    · replace h := h.2 c5
      refine gg_aload_n hG dX11_groupBy_24 rfl rfl ?_
      refine gg_get (v := .ref 56) hG dX11_groupBy_25 (by decide) rfl fl_RX11_38 rfl ?_
      refine gg_bipush (v := 32) hG dX11_groupBy_28 (by decide) ?_
      refine gg_iload_n hG dX11_groupBy_30 rfl rfl ?_
      refine gg_imul hG dX11_groupBy_31 ?_
      refine gg_iload hG dX11_groupBy_32 rfl ?_
      refine gg_iadd hG dX11_groupBy_34 ?_
      obtain ⟨h6, h⟩ := h
      refine gg_iald (j := (((32 : Int32) * a1) + a5).toNatClampNeg) hG dX11_groupBy_35 (by decide) rfl h6 rfl ?_
      refine gg_iload_n hG dX11_groupBy_36 rfl rfl ?_
      refine gg_ic_ne (tgt := 47) hG dX11_groupBy_37 (by decide) (fun c7 => ?_) (fun c7 => ?_)
      · replace h := h.1 c7
        refine gg_mk hG [true, true, true, true, false, true] rfl ?_
        exact m_X11_groupBy_c47 hG h hk6
      · replace h := h.2 c7
        refine gg_iconst (v := 1) hG dX11_groupBy_40 (by decide) ?_
        refine gg_iload hG dX11_groupBy_41 rfl ?_
        refine gg_ishl hG dX11_groupBy_43 ?_
        refine gg_goto (tgt := 48) hG dX11_groupBy_44 (by decide) ?_
        refine gg_mk hG [true, true, true, true, false, true] rfl ?_
        exact m_X11_groupBy_c48 hG h hk6
def w_X11_groupBy_c6 (a1 : Int32) (a2 : Int32) (a3 : Int32) (a4 : Int32) (a5 : Int32) (u : gg_M)  (Q : Int32 → gg_M → Prop) : Prop :=
  gg_loop (fun (s : Int32 × Int32 × gg_M) k6 => b_X11_groupBy_c6 a1 a2 a3 s.1 s.2.1 s.2.2  k6 Q) (a4, a5, u)
set_option maxRecDepth 10000 in
theorem m_X11_groupBy_c6 {a1 : Int32} {a2 : Int32} {a3 : Int32} {a4 : Int32} {a5 : Int32} {u : gg_M}  {G : gg_T} {Q : Int32 → gg_M → Prop} (hG : gg_Cl none cX11_groupBy 6 RX11 (some .int) 2 (gg_eI Q) G)  (h : w_X11_groupBy_c6 a1 a2 a3 a4 a5 u  Q)   : G 6 [some (.ref 1), some (.int a1), some (.int a2), some (.int a3), some (.int a4), some (.int a5)] [] u :=
  gg_loop_use (P := fun s : Int32 × Int32 × gg_M => G 6 [some (.ref 1), some (.int a1), some (.int a2), some (.int a3), some (.int s.1), some (.int s.2.1)] [] s.2.2) h (fun s rc hb hr => mb_X11_groupBy_c6 hG  hb   hr)
def w_X11_groupBy (a1 : Int32) (a2 : Int32) (a3 : Int32) (u : gg_M)  (Q : Int32 → gg_M → Prop) : Prop :=
  w_X11_groupBy_c6 a1 a2 a3 0 0 u Q
set_option maxRecDepth 10000 in
theorem m_X11_groupBy {a1 : Int32} {a2 : Int32} {a3 : Int32} {u : gg_M}  {G : gg_T} {Q : Int32 → gg_M → Prop} (hG : gg_Cl none cX11_groupBy 6 RX11 (some .int) 2 (gg_eI Q) G)  (h : w_X11_groupBy a1 a2 a3 u  Q)   : G 0 [some (.ref 1), some (.int a1), some (.int a2), some (.int a3), none, none] [] u := by
  unfold w_X11_groupBy at h
  refine gg_iconst (v := 0) hG dX11_groupBy_0 (by decide) ?_
  refine gg_istore (L1 := [some (.ref 1), some (.int a1), some (.int a2), some (.int a3), some (.int 0), none]) hG dX11_groupBy_1 (by decide) rfl ?_
  refine gg_iconst (v := 0) hG dX11_groupBy_3 (by decide) ?_
  refine gg_istore (L1 := [some (.ref 1), some (.int a1), some (.int a2), some (.int a3), some (.int 0), some (.int 0)]) hG dX11_groupBy_4 (by decide) rfl ?_
  exact m_X11_groupBy_c6 hG h
theorem mt_X11_groupBy {a1 : Int32} {a2 : Int32} {a3 : Int32}  {u : gg_M} {Q : Int32 → gg_M → Prop} (h : w_X11_groupBy a1 a2 a3 u Q) : gg_Mt 2 yX11_groupBy cX11_groupBy 6 (some .int) [.ref 1, .int a1, .int a2, .int a3] u (gg_eI Q) :=
  gg_intro (own := RX11) (by decide +kernel) rfl rfl (Nat.le_of_ble_eq_true rfl) (fun G hG => m_X11_groupBy hG  h)
/-! X11_weightOf -/
def w_X11_weightOf_c33 (a1 : Int32) (a4 : Int32) (z0 : Int64) (z1 : Int64) (u : gg_M) (k5 : Int64 × Int32 × gg_M → Prop) (Q : Int64 → gg_M → Prop) : Prop :=
  ∀ v1 : Int64, v1 = (z0 + z1) →
  k5 (v1, (a4 + 1), u)
set_option maxRecDepth 10000 in
theorem m_X11_weightOf_c33 {a1 : Int32} {a4 : Int32} {z0 : Int64} {z1 : Int64} {u : gg_M} {k5 : Int64 × Int32 × gg_M → Prop} {G : gg_T} {Q : Int64 → gg_M → Prop} (hG : gg_Cl none cX11_weightOf 5 RX11 (some .long) 2 (gg_eJ Q) G)  (h : w_X11_weightOf_c33 a1 a4 z0 z1 u k5 Q)  (hk5 : ∀ s : Int64 × Int32 × gg_M, k5 s → G 5 [some (.ref 1), some (.int a1), some (.long s.1), none, some (.int s.2.1)] [] s.2.2) : G 33 [some (.ref 1), some (.int a1), none, none, some (.int a4)] [.long z1, .long z0] u := by
  unfold w_X11_weightOf_c33 at h
  refine gg_ladd hG dX11_weightOf_33 ?_
  refine gg_nl (fun v1 e1 => ?_)
  replace h := h v1 e1
  refine gg_lstore_n (L1 := [some (.ref 1), some (.int a1), some (.long v1), none, some (.int a4)]) hG dX11_weightOf_34 rfl (by decide) rfl ?_
  refine gg_iinc (v := (a4 + 1)) (L1 := [some (.ref 1), some (.int a1), some (.long v1), none, some (.int (a4 + 1))]) hG dX11_weightOf_35 rfl rfl (by decide) rfl ?_
  refine gg_goto (tgt := 5) hG dX11_weightOf_38 (by decide) ?_
  exact hk5 _ h
def b_X11_weightOf_c5 (a1 : Int32) (a2 : Int64) (a4 : Int32) (u : gg_M)  (k5 : Int64 × Int32 × gg_M → Prop) (Q : Int64 → gg_M → Prop) : Prop :=
  (32 ≤ a4 →
   Q a2 u) ∧
  (¬ 32 ≤ a4 →
   w_X11_isIn a1 a4 u (fun v4 u3 =>
   (v4 = 0 →
    w_X11_weightOf_c33 a1 a4 a2 0 u3 k5 Q) ∧
   (¬ v4 = 0 →
    vp_in a4 32 ∧
    w_X11_weightOf_c33 a1 a4 a2 (u3.2 55 a4.toNatClampNeg) u3 k5 Q)))
set_option maxRecDepth 10000 in
theorem mb_X11_weightOf_c5 {a1 : Int32} {a2 : Int64} {a4 : Int32} {u : gg_M}  {k5 : Int64 × Int32 × gg_M → Prop} {G : gg_T} {Q : Int64 → gg_M → Prop} (hG : gg_Cl none cX11_weightOf 5 RX11 (some .long) 2 (gg_eJ Q) G)  (h : b_X11_weightOf_c5 a1 a2 a4 u k5 Q)   (hk5 : ∀ s : Int64 × Int32 × gg_M, k5 s → G 5 [some (.ref 1), some (.int a1), some (.long s.1), none, some (.int s.2.1)] [] s.2.2) : G 5 [some (.ref 1), some (.int a1), some (.long a2), none, some (.int a4)] [] u := by
  unfold b_X11_weightOf_c5 at h
  refine gg_iload hG dX11_weightOf_5 rfl ?_
  refine gg_bipush (v := 32) hG dX11_weightOf_7 (by decide) ?_
  refine gg_ic_ge (tgt := 41) hG dX11_weightOf_9 (by decide) (fun c2 => ?_) (fun c2 => ?_)
  · replace h := h.1 c2
    refine gg_lload_n hG dX11_weightOf_41 rfl rfl ?_
    exact gg_lret hG dX11_weightOf_42 rfl ⟨_, rfl, h⟩
  · replace h := h.2 c2
    refine gg_lload_n hG dX11_weightOf_12 rfl rfl ?_
    refine gg_iload_n hG dX11_weightOf_13 rfl rfl ?_
    refine gg_iload hG dX11_weightOf_14 rfl ?_
    refine gg_xs (As := [.int a1, .int a4]) (st := [.long a2]) hG dX11_weightOf_16 ml_RX11_119 Y_X11_isIn YS_X11_isIn (mt_X11_isIn h) rfl (by decide) (Nat.le_of_ble_eq_true rfl) rfl (gg_ki (fun v4 u3 h => ?_))
    refine gg_if_eq (tgt := 32) hG dX11_weightOf_19 (by decide) (fun c5 => ?_) (fun c5 => ?_)
    · replace h := h.1 c5
      refine gg_lconst (v := 0) hG dX11_weightOf_32 (by decide) ?_
      refine gg_mk hG [true, true, false, false, true] rfl ?_
      exact m_X11_weightOf_c33 hG h hk5
    · replace h := h.2 c5
      refine gg_aload_n hG dX11_weightOf_22 rfl rfl ?_
      refine gg_get (v := .ref 55) hG dX11_weightOf_23 (by decide) rfl fl_RX11_34 rfl ?_
      refine gg_iload hG dX11_weightOf_26 rfl ?_
      obtain ⟨h6, h⟩ := h
      refine gg_lald (j := a4.toNatClampNeg) hG dX11_weightOf_28 (by decide) rfl h6 rfl ?_
      refine gg_goto (tgt := 33) hG dX11_weightOf_29 (by decide) ?_
      refine gg_mk hG [true, true, false, false, true] rfl ?_
      exact m_X11_weightOf_c33 hG h hk5
def w_X11_weightOf_c5 (a1 : Int32) (a2 : Int64) (a4 : Int32) (u : gg_M)  (Q : Int64 → gg_M → Prop) : Prop :=
  gg_loop (fun (s : Int64 × Int32 × gg_M) k5 => b_X11_weightOf_c5 a1 s.1 s.2.1 s.2.2  k5 Q) (a2, a4, u)
set_option maxRecDepth 10000 in
theorem m_X11_weightOf_c5 {a1 : Int32} {a2 : Int64} {a4 : Int32} {u : gg_M}  {G : gg_T} {Q : Int64 → gg_M → Prop} (hG : gg_Cl none cX11_weightOf 5 RX11 (some .long) 2 (gg_eJ Q) G)  (h : w_X11_weightOf_c5 a1 a2 a4 u  Q)   : G 5 [some (.ref 1), some (.int a1), some (.long a2), none, some (.int a4)] [] u :=
  gg_loop_use (P := fun s : Int64 × Int32 × gg_M => G 5 [some (.ref 1), some (.int a1), some (.long s.1), none, some (.int s.2.1)] [] s.2.2) h (fun s rc hb hr => mb_X11_weightOf_c5 hG  hb   hr)
def w_X11_weightOf (a1 : Int32) (u : gg_M)  (Q : Int64 → gg_M → Prop) : Prop :=
  w_X11_weightOf_c5 a1 0 0 u Q
set_option maxRecDepth 10000 in
theorem m_X11_weightOf {a1 : Int32} {u : gg_M}  {G : gg_T} {Q : Int64 → gg_M → Prop} (hG : gg_Cl none cX11_weightOf 5 RX11 (some .long) 2 (gg_eJ Q) G)  (h : w_X11_weightOf a1 u  Q)   : G 0 [some (.ref 1), some (.int a1), none, none, none] [] u := by
  unfold w_X11_weightOf at h
  refine gg_lconst (v := 0) hG dX11_weightOf_0 (by decide) ?_
  refine gg_lstore_n (L1 := [some (.ref 1), some (.int a1), some (.long 0), none, none]) hG dX11_weightOf_1 rfl (by decide) rfl ?_
  refine gg_iconst (v := 0) hG dX11_weightOf_2 (by decide) ?_
  refine gg_istore (L1 := [some (.ref 1), some (.int a1), some (.long 0), none, some (.int 0)]) hG dX11_weightOf_3 (by decide) rfl ?_
  exact m_X11_weightOf_c5 hG h
theorem mt_X11_weightOf {a1 : Int32}  {u : gg_M} {Q : Int64 → gg_M → Prop} (h : w_X11_weightOf a1 u Q) : gg_Mt 2 yX11_weightOf cX11_weightOf 5 (some .long) [.ref 1, .int a1] u (gg_eJ Q) :=
  gg_intro (own := RX11) (by decide +kernel) rfl rfl (Nat.le_of_ble_eq_true rfl) (fun G hG => m_X11_weightOf hG  h)
/-! X11_those -/
def w_X11_those_c29 (a2 : Int32) (z0 : Int32) (z1 : Int32) (u : gg_M) (k4 : Int32 × Int32 × gg_M → Prop) (Q : Int32 → gg_M → Prop) : Prop :=
  ∀ v1 : Int32, v1 = (z0 ||| z1) →
  k4 (v1, (a2 + 1), u)
set_option maxRecDepth 10000 in
theorem m_X11_those_c29 {a2 : Int32} {z0 : Int32} {z1 : Int32} {u : gg_M} {k4 : Int32 × Int32 × gg_M → Prop} {G : gg_T} {Q : Int32 → gg_M → Prop} (hG : gg_Cl none cX11_those 3 RX11 (some .int) 1 (gg_eI Q) G)  (h : w_X11_those_c29 a2 z0 z1 u k4 Q)  (hk4 : ∀ s : Int32 × Int32 × gg_M, k4 s → G 4 [some (.ref 1), some (.int s.1), some (.int s.2.1)] [] s.2.2) : G 29 [some (.ref 1), none, some (.int a2)] [.int z1, .int z0] u := by
  unfold w_X11_those_c29 at h
  refine gg_ior hG dX11_those_29 ?_
  refine gg_ni (fun v1 e1 => ?_)
  replace h := h v1 e1
  refine gg_istore_n (L1 := [some (.ref 1), some (.int v1), some (.int a2)]) hG dX11_those_30 rfl (by decide) rfl ?_
  refine gg_iinc (v := (a2 + 1)) (L1 := [some (.ref 1), some (.int v1), some (.int (a2 + 1))]) hG dX11_those_31 rfl rfl (by decide) rfl ?_
  refine gg_goto (tgt := 4) hG dX11_those_34 (by decide) ?_
  exact hk4 _ h
def b_X11_those_c4  (a1 : Int32) (a2 : Int32) (u : gg_M)  (k4 : Int32 × Int32 × gg_M → Prop) (Q : Int32 → gg_M → Prop) : Prop :=
  (32 ≤ a2 →
   Q a1 u) ∧
  (¬ 32 ≤ a2 →
   vp_in a2 32 ∧
   ((lg_cmp (u.2 55 a2.toNatClampNeg) 0) ≤ 0 →
    w_X11_those_c29 a2 a1 0 u k4 Q) ∧
   (¬ (lg_cmp (u.2 55 a2.toNatClampNeg) 0) ≤ 0 →
    w_X11_those_c29 a2 a1 ((1 : Int32) <<< (a2 &&& 31)) u k4 Q))
set_option maxRecDepth 10000 in
theorem mb_X11_those_c4  {a1 : Int32} {a2 : Int32} {u : gg_M}  {k4 : Int32 × Int32 × gg_M → Prop} {G : gg_T} {Q : Int32 → gg_M → Prop} (hG : gg_Cl none cX11_those 3 RX11 (some .int) 1 (gg_eI Q) G)  (h : b_X11_those_c4 a1 a2 u k4 Q)   (hk4 : ∀ s : Int32 × Int32 × gg_M, k4 s → G 4 [some (.ref 1), some (.int s.1), some (.int s.2.1)] [] s.2.2) : G 4 [some (.ref 1), some (.int a1), some (.int a2)] [] u := by
  unfold b_X11_those_c4 at h
  refine gg_iload_n hG dX11_those_4 rfl rfl ?_
  refine gg_bipush (v := 32) hG dX11_those_5 (by decide) ?_
  refine gg_ic_ge (tgt := 37) hG dX11_those_7 (by decide) (fun c2 => ?_) (fun c2 => ?_)
  · replace h := h.1 c2
    refine gg_iload_n hG dX11_those_37 rfl rfl ?_
    exact gg_iret hG dX11_those_38 rfl rfl ⟨_, rfl, h⟩
  · replace h := h.2 c2
    refine gg_iload_n hG dX11_those_10 rfl rfl ?_
    refine gg_aload_n hG dX11_those_11 rfl rfl ?_
    refine gg_get (v := .ref 55) hG dX11_those_12 (by decide) rfl fl_RX11_34 rfl ?_
    refine gg_iload_n hG dX11_those_15 rfl rfl ?_
    obtain ⟨h3, h⟩ := h
    refine gg_lald (j := a2.toNatClampNeg) hG dX11_those_16 (by decide) rfl h3 rfl ?_
    refine gg_lconst (v := 0) hG dX11_those_17 (by decide) ?_
    refine gg_lcmp hG dX11_those_18 ?_
    refine gg_if_le (tgt := 28) hG dX11_those_19 (by decide) (fun c4 => ?_) (fun c4 => ?_)
    · replace h := h.1 c4
      refine gg_iconst (v := 0) hG dX11_those_28 (by decide) ?_
      refine gg_mk hG [true, false, true] rfl ?_
      exact m_X11_those_c29 hG h hk4
    · replace h := h.2 c4
      refine gg_iconst (v := 1) hG dX11_those_22 (by decide) ?_
      refine gg_iload_n hG dX11_those_23 rfl rfl ?_
      refine gg_ishl hG dX11_those_24 ?_
      refine gg_goto (tgt := 29) hG dX11_those_25 (by decide) ?_
      refine gg_mk hG [true, false, true] rfl ?_
      exact m_X11_those_c29 hG h hk4
def w_X11_those_c4 (a1 : Int32) (a2 : Int32) (u : gg_M)  (Q : Int32 → gg_M → Prop) : Prop :=
  gg_loop (fun (s : Int32 × Int32 × gg_M) k4 => b_X11_those_c4  s.1 s.2.1 s.2.2  k4 Q) (a1, a2, u)
set_option maxRecDepth 10000 in
theorem m_X11_those_c4 {a1 : Int32} {a2 : Int32} {u : gg_M}  {G : gg_T} {Q : Int32 → gg_M → Prop} (hG : gg_Cl none cX11_those 3 RX11 (some .int) 1 (gg_eI Q) G)  (h : w_X11_those_c4 a1 a2 u  Q)   : G 4 [some (.ref 1), some (.int a1), some (.int a2)] [] u :=
  gg_loop_use (P := fun s : Int32 × Int32 × gg_M => G 4 [some (.ref 1), some (.int s.1), some (.int s.2.1)] [] s.2.2) h (fun s rc hb hr => mb_X11_those_c4 hG  hb   hr)
def w_X11_those  (u : gg_M)  (Q : Int32 → gg_M → Prop) : Prop :=
  w_X11_those_c4 0 0 u Q
set_option maxRecDepth 10000 in
theorem m_X11_those  {u : gg_M}  {G : gg_T} {Q : Int32 → gg_M → Prop} (hG : gg_Cl none cX11_those 3 RX11 (some .int) 1 (gg_eI Q) G)  (h : w_X11_those  u  Q)   : G 0 [some (.ref 1), none, none] [] u := by
  unfold w_X11_those at h
  refine gg_iconst (v := 0) hG dX11_those_0 (by decide) ?_
  refine gg_istore_n (L1 := [some (.ref 1), some (.int 0), none]) hG dX11_those_1 rfl (by decide) rfl ?_
  refine gg_iconst (v := 0) hG dX11_those_2 (by decide) ?_
  refine gg_istore_n (L1 := [some (.ref 1), some (.int 0), some (.int 0)]) hG dX11_those_3 rfl (by decide) rfl ?_
  exact m_X11_those_c4 hG h
theorem mt_X11_those   {u : gg_M} {Q : Int32 → gg_M → Prop} (h : w_X11_those  u Q) : gg_Mt 1 yX11_those cX11_those 3 (some .int) [.ref 1] u (gg_eI Q) :=
  gg_intro (own := RX11) (by decide +kernel) rfl rfl (Nat.le_of_ble_eq_true rfl) (fun G hG => m_X11_those hG  h)
/-! X11_chanceNow -/
def w_X11_chanceNow (a1 : Int32) (a2 : Int32) (a3 : Int32) (u : gg_M)  (Q : Int64 → gg_M → Prop) : Prop :=
  w_X11_lays u (fun u1 =>
  (¬ (lg_cmp (u1.2 1 12) 0) = 0 →
   w_X11_those u1 (fun v4 u3 =>
   w_X11_goesOn 0 v4 a1 u3 (fun u5 =>
   w_X11_those u5 (fun v7 u6 =>
   w_X11_groupBy 0 v7 a2 u6 (fun v9 u8 =>
   w_X11_weightOf v9 u8 (fun v11 u10 =>
   w_X11_lowest v11 (u10.2 1 12) a3 u10 (fun v13 u12 =>
   Q v13 u12))))))) ∧
  ((lg_cmp (u1.2 1 12) 0) = 0 →
   w_X11_no (-3) u1 (fun v15 u14 =>
   Q v15 u14)))
set_option maxRecDepth 10000 in
theorem m_X11_chanceNow {a1 : Int32} {a2 : Int32} {a3 : Int32} {u : gg_M}  {G : gg_T} {Q : Int64 → gg_M → Prop} (hG : gg_Cl none cX11_chanceNow 4 RX11 (some .long) 5 (gg_eJ Q) G)  (h : w_X11_chanceNow a1 a2 a3 u  Q)   : G 0 [some (.ref 1), some (.int a1), some (.int a2), some (.int a3)] [] u := by
  unfold w_X11_chanceNow at h
  refine gg_aload_n hG dX11_chanceNow_0 rfl rfl ?_
  refine gg_xv (As := []) (st := []) hG dX11_chanceNow_1 ml_RX11_151 Y_X11_lays YV_X11_lays (by decide) ⟨_, rfl, rfl⟩ (mt_X11_lays h) rfl (by decide) (Nat.le_of_ble_eq_true rfl) rfl (gg_kv (fun u1 h => ?_))
  refine gg_aload_n hG dX11_chanceNow_4 rfl rfl ?_
  refine gg_get (v := .long (u1.2 1 12)) hG dX11_chanceNow_5 (by decide) rfl fl_RX11_135 rfl ?_
  refine gg_lconst (v := 0) hG dX11_chanceNow_8 (by decide) ?_
  refine gg_lcmp hG dX11_chanceNow_9 ?_
  refine gg_if_ne (tgt := 19) hG dX11_chanceNow_10 (by decide) (fun c2 => ?_) (fun c2 => ?_)
  · replace h := h.1 c2
    refine gg_aload_n hG dX11_chanceNow_19 rfl rfl ?_
    refine gg_iconst (v := 0) hG dX11_chanceNow_20 (by decide) ?_
    refine gg_aload_n hG dX11_chanceNow_21 rfl rfl ?_
    refine gg_xv (As := []) (st := [.int 0, .ref 1]) hG dX11_chanceNow_22 ml_RX11_178 Y_X11_those YV_X11_those (by decide) ⟨_, rfl, rfl⟩ (mt_X11_those h) rfl (by decide) (Nat.le_of_ble_eq_true rfl) rfl (gg_ki (fun v4 u3 h => ?_))
    refine gg_iload_n hG dX11_chanceNow_25 rfl rfl ?_
    refine gg_xv (As := [.int 0, .int v4, .int a1]) (st := []) hG dX11_chanceNow_26 ml_RX11_181 Y_X11_goesOn YV_X11_goesOn (by decide) ⟨_, rfl, rfl⟩ (mt_X11_goesOn h) rfl (by decide) (Nat.le_of_ble_eq_true rfl) rfl (gg_kv (fun u5 h => ?_))
    refine gg_aload_n hG dX11_chanceNow_29 rfl rfl ?_
    refine gg_aload_n hG dX11_chanceNow_30 rfl rfl ?_
    refine gg_iconst (v := 0) hG dX11_chanceNow_31 (by decide) ?_
    refine gg_aload_n hG dX11_chanceNow_32 rfl rfl ?_
    refine gg_xv (As := []) (st := [.int 0, .ref 1, .ref 1]) hG dX11_chanceNow_33 ml_RX11_178 Y_X11_those YV_X11_those (by decide) ⟨_, rfl, rfl⟩ (mt_X11_those h) rfl (by decide) (Nat.le_of_ble_eq_true rfl) rfl (gg_ki (fun v7 u6 h => ?_))
    refine gg_iload_n hG dX11_chanceNow_36 rfl rfl ?_
    refine gg_xv (As := [.int 0, .int v7, .int a2]) (st := [.ref 1]) hG dX11_chanceNow_37 ml_RX11_184 Y_X11_groupBy YV_X11_groupBy (by decide) ⟨_, rfl, rfl⟩ (mt_X11_groupBy h) rfl (by decide) (Nat.le_of_ble_eq_true rfl) rfl (gg_ki (fun v9 u8 h => ?_))
    refine gg_xv (As := [.int v9]) (st := []) hG dX11_chanceNow_40 ml_RX11_187 Y_X11_weightOf YV_X11_weightOf (by decide) ⟨_, rfl, rfl⟩ (mt_X11_weightOf h) rfl (by decide) (Nat.le_of_ble_eq_true rfl) rfl (gg_kj (fun v11 u10 h => ?_))
    refine gg_aload_n hG dX11_chanceNow_43 rfl rfl ?_
    refine gg_get (v := .long (u10.2 1 12)) hG dX11_chanceNow_44 (by decide) rfl fl_RX11_135 rfl ?_
    refine gg_iload_n hG dX11_chanceNow_47 rfl rfl ?_
    refine gg_xs (As := [.long v11, .long (u10.2 1 12), .int a3]) (st := []) hG dX11_chanceNow_48 ml_RX11_163 Y_X11_lowest YS_X11_lowest (mt_X11_lowest h) rfl (by decide) (Nat.le_of_ble_eq_true rfl) rfl (gg_kj (fun v13 u12 h => ?_))
    exact gg_lret hG dX11_chanceNow_51 rfl ⟨_, rfl, h⟩
  · replace h := h.2 c2
    refine gg_bipush (v := (-3)) hG dX11_chanceNow_13 (by decide) ?_
    refine gg_xs (As := [.int (-3)]) (st := []) hG dX11_chanceNow_15 ml_RX11_160 Y_X11_no YS_X11_no (mt_X11_no h) rfl (by decide) (Nat.le_of_ble_eq_true rfl) rfl (gg_kj (fun v15 u14 h => ?_))
    exact gg_lret hG dX11_chanceNow_18 rfl ⟨_, rfl, h⟩
theorem mt_X11_chanceNow {a1 : Int32} {a2 : Int32} {a3 : Int32}  {u : gg_M} {Q : Int64 → gg_M → Prop} (h : w_X11_chanceNow a1 a2 a3 u Q) : gg_Mt 5 yX11_chanceNow cX11_chanceNow 4 (some .long) [.ref 1, .int a1, .int a2, .int a3] u (gg_eJ Q) :=
  gg_intro (own := RX11) (by decide +kernel) rfl rfl (Nat.le_of_ble_eq_true rfl) (fun G hG => m_X11_chanceNow hG  h)
/-! X11_chance -/
def w_X11_chance_c44 (z0 : Int64) (u : gg_M)  (Q : Int64 → gg_M → Prop) : Prop :=
  Q z0 u
set_option maxRecDepth 10000 in
theorem m_X11_chance_c44 {z0 : Int64} {u : gg_M}  {G : gg_T} {Q : Int64 → gg_M → Prop} (hG : gg_Cl none cX11_chance 4 RX11 (some .long) 6 (gg_eJ Q) G)  (h : w_X11_chance_c44 z0 u  Q)   : G 44 [none, none, none, none] [.long z0] u := by
  unfold w_X11_chance_c44 at h
  exact gg_lret hG dX11_chance_44 rfl ⟨_, rfl, h⟩
def w_X11_chance_c39  (u : gg_M)  (Q : Int64 → gg_M → Prop) : Prop :=
  w_X11_no (-2) u (fun v2 u1 =>
  w_X11_chance_c44 v2 u1 Q)
set_option maxRecDepth 10000 in
theorem m_X11_chance_c39  {u : gg_M}  {G : gg_T} {Q : Int64 → gg_M → Prop} (hG : gg_Cl none cX11_chance 4 RX11 (some .long) 6 (gg_eJ Q) G)  (h : w_X11_chance_c39  u  Q)   : G 39 [none, none, none, none] [] u := by
  unfold w_X11_chance_c39 at h
  refine gg_bipush (v := (-2)) hG dX11_chance_39 (by decide) ?_
  refine gg_xs (As := [.int (-2)]) (st := []) hG dX11_chance_41 ml_RX11_160 Y_X11_no YS_X11_no (mt_X11_no h) rfl (by decide) (Nat.le_of_ble_eq_true rfl) rfl (gg_kj (fun v2 u1 h => ?_))
  exact m_X11_chance_c44 hG h
def w_X11_chance (a1 : Int32) (a2 : Int32) (a3 : Int32) (u : gg_M)  (Q : Int64 → gg_M → Prop) : Prop :=
  w_X11_in a1 0 9 u (fun v4 u3 =>
  (v4 = 0 →
   w_X11_chance_c39 u3 Q) ∧
  (¬ v4 = 0 →
   w_X11_in a2 0 6 u3 (fun v7 u6 =>
   (v7 = 0 →
    w_X11_chance_c39 u6 Q) ∧
   (¬ v7 = 0 →
    w_X11_in a3 0 1 u6 (fun v10 u9 =>
    (v10 = 0 →
     w_X11_chance_c39 u9 Q) ∧
    (¬ v10 = 0 →
     w_X11_chanceNow a1 a2 a3 u9 (fun v13 u12 =>
     w_X11_chance_c44 v13 u12 Q)))))))
set_option maxRecDepth 10000 in
theorem m_X11_chance {a1 : Int32} {a2 : Int32} {a3 : Int32} {u : gg_M}  {G : gg_T} {Q : Int64 → gg_M → Prop} (hG : gg_Cl none cX11_chance 4 RX11 (some .long) 6 (gg_eJ Q) G)  (h : w_X11_chance a1 a2 a3 u  Q)   : G 0 [some (.ref 1), some (.int a1), some (.int a2), some (.int a3)] [] u := by
  unfold w_X11_chance at h
  refine gg_iload_n hG dX11_chance_0 rfl rfl ?_
  refine gg_iconst (v := 0) hG dX11_chance_1 (by decide) ?_
  refine gg_bipush (v := 9) hG dX11_chance_2 (by decide) ?_
  refine gg_xs (As := [.int a1, .int 0, .int 9]) (st := []) hG dX11_chance_4 ml_RX11_68 Y_X11_in YS_X11_in (mt_X11_in h) rfl (by decide) (Nat.le_of_ble_eq_true rfl) rfl (gg_ki (fun v4 u3 h => ?_))
  refine gg_if_eq (tgt := 39) hG dX11_chance_7 (by decide) (fun c5 => ?_) (fun c5 => ?_)
  · replace h := h.1 c5
    refine gg_mk hG [false, false, false, false] rfl ?_
    exact m_X11_chance_c39 hG h
  · replace h := h.2 c5
    refine gg_iload_n hG dX11_chance_10 rfl rfl ?_
    refine gg_iconst (v := 0) hG dX11_chance_11 (by decide) ?_
    refine gg_bipush (v := 6) hG dX11_chance_12 (by decide) ?_
    refine gg_xs (As := [.int a2, .int 0, .int 6]) (st := []) hG dX11_chance_14 ml_RX11_68 Y_X11_in YS_X11_in (mt_X11_in h) rfl (by decide) (Nat.le_of_ble_eq_true rfl) rfl (gg_ki (fun v7 u6 h => ?_))
    refine gg_if_eq (tgt := 39) hG dX11_chance_17 (by decide) (fun c8 => ?_) (fun c8 => ?_)
    · replace h := h.1 c8
      refine gg_mk hG [false, false, false, false] rfl ?_
      exact m_X11_chance_c39 hG h
    · replace h := h.2 c8
      refine gg_iload_n hG dX11_chance_20 rfl rfl ?_
      refine gg_iconst (v := 0) hG dX11_chance_21 (by decide) ?_
      refine gg_iconst (v := 1) hG dX11_chance_22 (by decide) ?_
      refine gg_xs (As := [.int a3, .int 0, .int 1]) (st := []) hG dX11_chance_23 ml_RX11_68 Y_X11_in YS_X11_in (mt_X11_in h) rfl (by decide) (Nat.le_of_ble_eq_true rfl) rfl (gg_ki (fun v10 u9 h => ?_))
      refine gg_if_eq (tgt := 39) hG dX11_chance_26 (by decide) (fun c11 => ?_) (fun c11 => ?_)
      · replace h := h.1 c11
        refine gg_mk hG [false, false, false, false] rfl ?_
        exact m_X11_chance_c39 hG h
      · replace h := h.2 c11
        refine gg_aload_n hG dX11_chance_29 rfl rfl ?_
        refine gg_iload_n hG dX11_chance_30 rfl rfl ?_
        refine gg_iload_n hG dX11_chance_31 rfl rfl ?_
        refine gg_iload_n hG dX11_chance_32 rfl rfl ?_
        refine gg_xv (As := [.int a1, .int a2, .int a3]) (st := []) hG dX11_chance_33 ml_RX11_190 Y_X11_chanceNow YV_X11_chanceNow (by decide) ⟨_, rfl, rfl⟩ (mt_X11_chanceNow h) rfl (by decide) (Nat.le_of_ble_eq_true rfl) rfl (gg_kj (fun v13 u12 h => ?_))
        refine gg_goto (tgt := 44) hG dX11_chance_36 (by decide) ?_
        refine gg_mk hG [false, false, false, false] rfl ?_
        exact m_X11_chance_c44 hG h
theorem mt_X11_chance {a1 : Int32} {a2 : Int32} {a3 : Int32}  {u : gg_M} {Q : Int64 → gg_M → Prop} (h : w_X11_chance a1 a2 a3 u Q) : gg_Mt 6 yX11_chance cX11_chance 4 (some .long) [.ref 1, .int a1, .int a2, .int a3] u (gg_eJ Q) :=
  gg_intro (own := RX11) (by decide +kernel) rfl rfl (Nat.le_of_ble_eq_true rfl) (fun G hG => m_X11_chance hG  h)
/-! X11_partsNow -/
def w_X11_partsNow_c55 (a3 : Int32) (z0 : Int32) (z1 : Int32) (u : gg_M) (k30 : Int32 × Int32 × gg_M → Prop) (Q : Int32 → gg_M → Prop) : Prop :=
  ∀ v1 : Int32, v1 = (z0 + z1) →
  k30 (v1, (a3 + 1), u)
set_option maxRecDepth 10000 in
theorem m_X11_partsNow_c55 {a3 : Int32} {z0 : Int32} {z1 : Int32} {u : gg_M} {k30 : Int32 × Int32 × gg_M → Prop} {G : gg_T} {Q : Int32 → gg_M → Prop} (hG : gg_Cl none cX11_partsNow 4 RX11 (some .int) 5 (gg_eI Q) G)  (h : w_X11_partsNow_c55 a3 z0 z1 u k30 Q)  (hk30 : ∀ s : Int32 × Int32 × gg_M, k30 s → G 30 [some (.ref 1), none, some (.int s.1), some (.int s.2.1)] [] s.2.2) : G 55 [some (.ref 1), none, none, some (.int a3)] [.int z1, .int z0] u := by
  unfold w_X11_partsNow_c55 at h
  refine gg_iadd hG dX11_partsNow_55 ?_
  refine gg_ni (fun v1 e1 => ?_)
  replace h := h v1 e1
  refine gg_istore_n (L1 := [some (.ref 1), none, some (.int v1), some (.int a3)]) hG dX11_partsNow_56 rfl (by decide) rfl ?_
  refine gg_iinc (v := (a3 + 1)) (L1 := [some (.ref 1), none, some (.int v1), some (.int (a3 + 1))]) hG dX11_partsNow_57 rfl rfl (by decide) rfl ?_
  refine gg_goto (tgt := 30) hG dX11_partsNow_60 (by decide) ?_
  exact hk30 _ h
def b_X11_partsNow_c30  (a2 : Int32) (a3 : Int32) (u : gg_M)  (k30 : Int32 × Int32 × gg_M → Prop) (Q : Int32 → gg_M → Prop) : Prop :=
  (7 ≤ a3 →
   Q a2 u) ∧
  (¬ 7 ≤ a3 →
   w_X11_those u (fun v4 u3 =>
   w_X11_groupBy 0 v4 a3 u3 (fun v6 u5 =>
   (v6 = 0 →
    w_X11_partsNow_c55 a3 a2 0 u5 k30 Q) ∧
   (¬ v6 = 0 →
    w_X11_partsNow_c55 a3 a2 1 u5 k30 Q))))
set_option maxRecDepth 10000 in
theorem mb_X11_partsNow_c30  {a2 : Int32} {a3 : Int32} {u : gg_M}  {k30 : Int32 × Int32 × gg_M → Prop} {G : gg_T} {Q : Int32 → gg_M → Prop} (hG : gg_Cl none cX11_partsNow 4 RX11 (some .int) 5 (gg_eI Q) G)  (h : b_X11_partsNow_c30 a2 a3 u k30 Q)   (hk30 : ∀ s : Int32 × Int32 × gg_M, k30 s → G 30 [some (.ref 1), none, some (.int s.1), some (.int s.2.1)] [] s.2.2) : G 30 [some (.ref 1), none, some (.int a2), some (.int a3)] [] u := by
  unfold b_X11_partsNow_c30 at h
  refine gg_iload_n hG dX11_partsNow_30 rfl rfl ?_
  refine gg_bipush (v := 7) hG dX11_partsNow_31 (by decide) ?_
  refine gg_ic_ge (tgt := 63) hG dX11_partsNow_33 (by decide) (fun c2 => ?_) (fun c2 => ?_)
  · replace h := h.1 c2
    refine gg_iload_n hG dX11_partsNow_63 rfl rfl ?_
    exact gg_iret hG dX11_partsNow_64 rfl rfl ⟨_, rfl, h⟩
  · replace h := h.2 c2
    refine gg_iload_n hG dX11_partsNow_36 rfl rfl ?_
    refine gg_aload_n hG dX11_partsNow_37 rfl rfl ?_
    refine gg_iconst (v := 0) hG dX11_partsNow_38 (by decide) ?_
    refine gg_aload_n hG dX11_partsNow_39 rfl rfl ?_
    refine gg_xv (As := []) (st := [.int 0, .ref 1, .int a2]) hG dX11_partsNow_40 ml_RX11_178 Y_X11_those YV_X11_those (by decide) ⟨_, rfl, rfl⟩ (mt_X11_those h) rfl (by decide) (Nat.le_of_ble_eq_true rfl) rfl (gg_ki (fun v4 u3 h => ?_))
    refine gg_iload_n hG dX11_partsNow_43 rfl rfl ?_
    refine gg_xv (As := [.int 0, .int v4, .int a3]) (st := [.int a2]) hG dX11_partsNow_44 ml_RX11_184 Y_X11_groupBy YV_X11_groupBy (by decide) ⟨_, rfl, rfl⟩ (mt_X11_groupBy h) rfl (by decide) (Nat.le_of_ble_eq_true rfl) rfl (gg_ki (fun v6 u5 h => ?_))
    refine gg_if_eq (tgt := 54) hG dX11_partsNow_47 (by decide) (fun c7 => ?_) (fun c7 => ?_)
    · replace h := h.1 c7
      refine gg_iconst (v := 0) hG dX11_partsNow_54 (by decide) ?_
      refine gg_mk hG [true, false, false, true] rfl ?_
      exact m_X11_partsNow_c55 hG h hk30
    · replace h := h.2 c7
      refine gg_iconst (v := 1) hG dX11_partsNow_50 (by decide) ?_
      refine gg_goto (tgt := 55) hG dX11_partsNow_51 (by decide) ?_
      refine gg_mk hG [true, false, false, true] rfl ?_
      exact m_X11_partsNow_c55 hG h hk30
def w_X11_partsNow_c30 (a2 : Int32) (a3 : Int32) (u : gg_M)  (Q : Int32 → gg_M → Prop) : Prop :=
  gg_loop (fun (s : Int32 × Int32 × gg_M) k30 => b_X11_partsNow_c30  s.1 s.2.1 s.2.2  k30 Q) (a2, a3, u)
set_option maxRecDepth 10000 in
theorem m_X11_partsNow_c30 {a2 : Int32} {a3 : Int32} {u : gg_M}  {G : gg_T} {Q : Int32 → gg_M → Prop} (hG : gg_Cl none cX11_partsNow 4 RX11 (some .int) 5 (gg_eI Q) G)  (h : w_X11_partsNow_c30 a2 a3 u  Q)   : G 30 [some (.ref 1), none, some (.int a2), some (.int a3)] [] u :=
  gg_loop_use (P := fun s : Int32 × Int32 × gg_M => G 30 [some (.ref 1), none, some (.int s.1), some (.int s.2.1)] [] s.2.2) h (fun s rc hb hr => mb_X11_partsNow_c30 hG  hb   hr)
def w_X11_partsNow (a1 : Int32) (u : gg_M)  (Q : Int32 → gg_M → Prop) : Prop :=
  w_X11_lays u (fun u8 =>
  (¬ (lg_cmp (u8.2 1 12) 0) = 0 →
   w_X11_those u8 (fun v11 u10 =>
   w_X11_goesOn 0 v11 a1 u10 (fun u12 =>
   w_X11_partsNow_c30 0 0 u12 Q))) ∧
  ((lg_cmp (u8.2 1 12) 0) = 0 →
   Q (-3) u8))
set_option maxRecDepth 10000 in
theorem m_X11_partsNow {a1 : Int32} {u : gg_M}  {G : gg_T} {Q : Int32 → gg_M → Prop} (hG : gg_Cl none cX11_partsNow 4 RX11 (some .int) 5 (gg_eI Q) G)  (h : w_X11_partsNow a1 u  Q)   : G 0 [some (.ref 1), some (.int a1), none, none] [] u := by
  unfold w_X11_partsNow at h
  refine gg_aload_n hG dX11_partsNow_0 rfl rfl ?_
  refine gg_xv (As := []) (st := []) hG dX11_partsNow_1 ml_RX11_151 Y_X11_lays YV_X11_lays (by decide) ⟨_, rfl, rfl⟩ (mt_X11_lays h) rfl (by decide) (Nat.le_of_ble_eq_true rfl) rfl (gg_kv (fun u8 h => ?_))
  refine gg_aload_n hG dX11_partsNow_4 rfl rfl ?_
  refine gg_get (v := .long (u8.2 1 12)) hG dX11_partsNow_5 (by decide) rfl fl_RX11_135 rfl ?_
  refine gg_lconst (v := 0) hG dX11_partsNow_8 (by decide) ?_
  refine gg_lcmp hG dX11_partsNow_9 ?_
  refine gg_if_ne (tgt := 16) hG dX11_partsNow_10 (by decide) (fun c9 => ?_) (fun c9 => ?_)
  · replace h := h.1 c9
    refine gg_aload_n hG dX11_partsNow_16 rfl rfl ?_
    refine gg_iconst (v := 0) hG dX11_partsNow_17 (by decide) ?_
    refine gg_aload_n hG dX11_partsNow_18 rfl rfl ?_
    refine gg_xv (As := []) (st := [.int 0, .ref 1]) hG dX11_partsNow_19 ml_RX11_178 Y_X11_those YV_X11_those (by decide) ⟨_, rfl, rfl⟩ (mt_X11_those h) rfl (by decide) (Nat.le_of_ble_eq_true rfl) rfl (gg_ki (fun v11 u10 h => ?_))
    refine gg_iload_n hG dX11_partsNow_22 rfl rfl ?_
    refine gg_xv (As := [.int 0, .int v11, .int a1]) (st := []) hG dX11_partsNow_23 ml_RX11_181 Y_X11_goesOn YV_X11_goesOn (by decide) ⟨_, rfl, rfl⟩ (mt_X11_goesOn h) rfl (by decide) (Nat.le_of_ble_eq_true rfl) rfl (gg_kv (fun u12 h => ?_))
    refine gg_iconst (v := 0) hG dX11_partsNow_26 (by decide) ?_
    refine gg_istore_n (L1 := [some (.ref 1), some (.int a1), some (.int 0), none]) hG dX11_partsNow_27 rfl (by decide) rfl ?_
    refine gg_iconst (v := 0) hG dX11_partsNow_28 (by decide) ?_
    refine gg_istore_n (L1 := [some (.ref 1), some (.int a1), some (.int 0), some (.int 0)]) hG dX11_partsNow_29 rfl (by decide) rfl ?_
    refine gg_mk hG [true, false, true, true] rfl ?_
    exact m_X11_partsNow_c30 hG h
  · replace h := h.2 c9
    refine gg_bipush (v := (-3)) hG dX11_partsNow_13 (by decide) ?_
    exact gg_iret hG dX11_partsNow_15 rfl rfl ⟨_, rfl, h⟩
theorem mt_X11_partsNow {a1 : Int32}  {u : gg_M} {Q : Int32 → gg_M → Prop} (h : w_X11_partsNow a1 u Q) : gg_Mt 5 yX11_partsNow cX11_partsNow 4 (some .int) [.ref 1, .int a1] u (gg_eI Q) :=
  gg_intro (own := RX11) (by decide +kernel) rfl rfl (Nat.le_of_ble_eq_true rfl) (fun G hG => m_X11_partsNow hG  h)
/-! X11_parts -/
def w_X11_parts_c20 (z0 : Int32) (u : gg_M)  (Q : Int32 → gg_M → Prop) : Prop :=
  Q z0 u
set_option maxRecDepth 10000 in
theorem m_X11_parts_c20 {z0 : Int32} {u : gg_M}  {G : gg_T} {Q : Int32 → gg_M → Prop} (hG : gg_Cl none cX11_parts 2 RX11 (some .int) 6 (gg_eI Q) G)  (h : w_X11_parts_c20 z0 u  Q)   : G 20 [none, none] [.int z0] u := by
  unfold w_X11_parts_c20 at h
  exact gg_iret hG dX11_parts_20 rfl rfl ⟨_, rfl, h⟩
def w_X11_parts (a1 : Int32) (u : gg_M)  (Q : Int32 → gg_M → Prop) : Prop :=
  w_X11_in a1 0 9 u (fun v2 u1 =>
  (v2 = 0 →
   w_X11_parts_c20 (-2) u1 Q) ∧
  (¬ v2 = 0 →
   w_X11_partsNow a1 u1 (fun v5 u4 =>
   w_X11_parts_c20 v5 u4 Q)))
set_option maxRecDepth 10000 in
theorem m_X11_parts {a1 : Int32} {u : gg_M}  {G : gg_T} {Q : Int32 → gg_M → Prop} (hG : gg_Cl none cX11_parts 2 RX11 (some .int) 6 (gg_eI Q) G)  (h : w_X11_parts a1 u  Q)   : G 0 [some (.ref 1), some (.int a1)] [] u := by
  unfold w_X11_parts at h
  refine gg_iload_n hG dX11_parts_0 rfl rfl ?_
  refine gg_iconst (v := 0) hG dX11_parts_1 (by decide) ?_
  refine gg_bipush (v := 9) hG dX11_parts_2 (by decide) ?_
  refine gg_xs (As := [.int a1, .int 0, .int 9]) (st := []) hG dX11_parts_4 ml_RX11_68 Y_X11_in YS_X11_in (mt_X11_in h) rfl (by decide) (Nat.le_of_ble_eq_true rfl) rfl (gg_ki (fun v2 u1 h => ?_))
  refine gg_if_eq (tgt := 18) hG dX11_parts_7 (by decide) (fun c3 => ?_) (fun c3 => ?_)
  · replace h := h.1 c3
    refine gg_bipush (v := (-2)) hG dX11_parts_18 (by decide) ?_
    refine gg_mk hG [false, false] rfl ?_
    exact m_X11_parts_c20 hG h
  · replace h := h.2 c3
    refine gg_aload_n hG dX11_parts_10 rfl rfl ?_
    refine gg_iload_n hG dX11_parts_11 rfl rfl ?_
    refine gg_xv (As := [.int a1]) (st := []) hG dX11_parts_12 ml_RX11_194 Y_X11_partsNow YV_X11_partsNow (by decide) ⟨_, rfl, rfl⟩ (mt_X11_partsNow h) rfl (by decide) (Nat.le_of_ble_eq_true rfl) rfl (gg_ki (fun v5 u4 h => ?_))
    refine gg_goto (tgt := 20) hG dX11_parts_15 (by decide) ?_
    refine gg_mk hG [false, false] rfl ?_
    exact m_X11_parts_c20 hG h
theorem mt_X11_parts {a1 : Int32}  {u : gg_M} {Q : Int32 → gg_M → Prop} (h : w_X11_parts a1 u Q) : gg_Mt 6 yX11_parts cX11_parts 2 (some .int) [.ref 1, .int a1] u (gg_eI Q) :=
  gg_intro (own := RX11) (by decide +kernel) rfl rfl (Nat.le_of_ble_eq_true rfl) (fun G hG => m_X11_parts hG  h)
/-! X11_sure -/
def w_X11_sure_c127 (a2 : Int32) (a3 : Int64) (a5 : Int32) (a6 : Int32) (a9 : Int32) (z0 : Int64) (u : gg_M) (k59 : Int64 × Int32 × gg_M → Prop) (k85 : Int64 × Int32 × gg_M → Prop) (Q : Int64 → gg_M → Prop) : Prop :=
  k85 (z0, (a9 + 1), u)
set_option maxRecDepth 10000 in
theorem m_X11_sure_c127 {a2 : Int32} {a3 : Int64} {a5 : Int32} {a6 : Int32} {a9 : Int32} {z0 : Int64} {u : gg_M} {k59 : Int64 × Int32 × gg_M → Prop} {k85 : Int64 × Int32 × gg_M → Prop} {G : gg_T} {Q : Int64 → gg_M → Prop} (hG : gg_Cl none cX11_sure 10 RX11 (some .long) 5 (gg_eJ Q) G)  (h : w_X11_sure_c127 a2 a3 a5 a6 a9 z0 u k59 k85 Q)  (hk59 : ∀ s : Int64 × Int32 × gg_M, k59 s → G 59 [some (.ref 1), none, some (.int a2), some (.long s.1), none, some (.int s.2.1), none, none, none, none] [] s.2.2) (hk85 : ∀ s : Int64 × Int32 × gg_M, k85 s → G 85 [some (.ref 1), none, some (.int a2), some (.long a3), none, some (.int a5), some (.int a6), some (.long s.1), none, some (.int s.2.1)] [] s.2.2) : G 127 [some (.ref 1), none, some (.int a2), some (.long a3), none, some (.int a5), some (.int a6), none, none, some (.int a9)] [.long z0] u := by
  unfold w_X11_sure_c127 at h
  refine gg_lstore (L1 := [some (.ref 1), none, some (.int a2), some (.long a3), none, some (.int a5), some (.int a6), some (.long z0), none, some (.int a9)]) hG dX11_sure_127 (by decide) rfl ?_
  refine gg_iinc (v := (a9 + 1)) (L1 := [some (.ref 1), none, some (.int a2), some (.long a3), none, some (.int a5), some (.int a6), some (.long z0), none, some (.int (a9 + 1))]) hG dX11_sure_129 rfl rfl (by decide) rfl ?_
  refine gg_goto (tgt := 85) hG dX11_sure_132 (by decide) ?_
  exact hk85 _ h
def w_X11_sure_c125 (a2 : Int32) (a3 : Int64) (a5 : Int32) (a6 : Int32) (a7 : Int64) (a9 : Int32) (u : gg_M) (k59 : Int64 × Int32 × gg_M → Prop) (k85 : Int64 × Int32 × gg_M → Prop) (Q : Int64 → gg_M → Prop) : Prop :=
  w_X11_sure_c127 a2 a3 a5 a6 a9 a7 u k59 k85 Q
set_option maxRecDepth 10000 in
theorem m_X11_sure_c125 {a2 : Int32} {a3 : Int64} {a5 : Int32} {a6 : Int32} {a7 : Int64} {a9 : Int32} {u : gg_M} {k59 : Int64 × Int32 × gg_M → Prop} {k85 : Int64 × Int32 × gg_M → Prop} {G : gg_T} {Q : Int64 → gg_M → Prop} (hG : gg_Cl none cX11_sure 10 RX11 (some .long) 5 (gg_eJ Q) G)  (h : w_X11_sure_c125 a2 a3 a5 a6 a7 a9 u k59 k85 Q)  (hk59 : ∀ s : Int64 × Int32 × gg_M, k59 s → G 59 [some (.ref 1), none, some (.int a2), some (.long s.1), none, some (.int s.2.1), none, none, none, none] [] s.2.2) (hk85 : ∀ s : Int64 × Int32 × gg_M, k85 s → G 85 [some (.ref 1), none, some (.int a2), some (.long a3), none, some (.int a5), some (.int a6), some (.long s.1), none, some (.int s.2.1)] [] s.2.2) : G 125 [some (.ref 1), none, some (.int a2), some (.long a3), none, some (.int a5), some (.int a6), some (.long a7), none, some (.int a9)] [] u := by
  unfold w_X11_sure_c125 at h
  refine gg_lload hG dX11_sure_125 rfl ?_
  refine gg_mk hG [true, false, true, true, false, true, true, false, false, true] rfl ?_
  exact m_X11_sure_c127 hG h hk59 hk85
def b_X11_sure_c85 (a2 : Int32) (a3 : Int64) (a5 : Int32) (a6 : Int32) (a7 : Int64) (a9 : Int32) (u : gg_M) (k59 : Int64 × Int32 × gg_M → Prop) (k85 : Int64 × Int32 × gg_M → Prop) (Q : Int64 → gg_M → Prop) : Prop :=
  (32 ≤ a9 →
   ∀ v2 : Int64, v2 = (a3 + a7) →
   k59 (v2, (a5 + 1), u)) ∧
  (¬ 32 ≤ a9 →
   w_X11_isIn a6 a9 u (fun v4 u3 =>
   (v4 = 0 →
    w_X11_sure_c125 a2 a3 a5 a6 a7 a9 u3 k59 k85 Q) ∧
   (¬ v4 = 0 →
    vp_in a9 32 ∧
    ((lg_cmp (u3.2 55 a9.toNatClampNeg) a7) ≤ 0 →
     w_X11_sure_c125 a2 a3 a5 a6 a7 a9 u3 k59 k85 Q) ∧
    (¬ (lg_cmp (u3.2 55 a9.toNatClampNeg) a7) ≤ 0 →
     vp_in a9 32 ∧
     w_X11_sure_c127 a2 a3 a5 a6 a9 (u3.2 55 a9.toNatClampNeg) u3 k59 k85 Q))))
set_option maxRecDepth 10000 in
theorem mb_X11_sure_c85 {a2 : Int32} {a3 : Int64} {a5 : Int32} {a6 : Int32} {a7 : Int64} {a9 : Int32} {u : gg_M} {k59 : Int64 × Int32 × gg_M → Prop} {k85 : Int64 × Int32 × gg_M → Prop} {G : gg_T} {Q : Int64 → gg_M → Prop} (hG : gg_Cl none cX11_sure 10 RX11 (some .long) 5 (gg_eJ Q) G)  (h : b_X11_sure_c85 a2 a3 a5 a6 a7 a9 u k59 k85 Q)  (hk59 : ∀ s : Int64 × Int32 × gg_M, k59 s → G 59 [some (.ref 1), none, some (.int a2), some (.long s.1), none, some (.int s.2.1), none, none, none, none] [] s.2.2) (hk85 : ∀ s : Int64 × Int32 × gg_M, k85 s → G 85 [some (.ref 1), none, some (.int a2), some (.long a3), none, some (.int a5), some (.int a6), some (.long s.1), none, some (.int s.2.1)] [] s.2.2) : G 85 [some (.ref 1), none, some (.int a2), some (.long a3), none, some (.int a5), some (.int a6), some (.long a7), none, some (.int a9)] [] u := by
  unfold b_X11_sure_c85 at h
  refine gg_iload hG dX11_sure_85 rfl ?_
  refine gg_bipush (v := 32) hG dX11_sure_87 (by decide) ?_
  refine gg_ic_ge (tgt := 135) hG dX11_sure_89 (by decide) (fun c1 => ?_) (fun c1 => ?_)
  · replace h := h.1 c1
    refine gg_lload_n hG dX11_sure_135 rfl rfl ?_
    refine gg_lload hG dX11_sure_136 rfl ?_
    refine gg_ladd hG dX11_sure_138 ?_
    refine gg_nl (fun v2 e2 => ?_)
    replace h := h v2 e2
    refine gg_lstore_n (L1 := [some (.ref 1), none, some (.int a2), some (.long v2), none, some (.int a5), some (.int a6), some (.long a7), none, some (.int a9)]) hG dX11_sure_139 rfl (by decide) rfl ?_
    refine gg_iinc (v := (a5 + 1)) (L1 := [some (.ref 1), none, some (.int a2), some (.long v2), none, some (.int (a5 + 1)), some (.int a6), some (.long a7), none, some (.int a9)]) hG dX11_sure_140 rfl rfl (by decide) rfl ?_
    refine gg_goto (tgt := 59) hG dX11_sure_143 (by decide) ?_
    refine gg_mk hG [true, false, true, true, false, true, false, false, false, false] rfl ?_
    exact hk59 _ h
  · replace h := h.2 c1
    refine gg_iload hG dX11_sure_92 rfl ?_
    refine gg_iload hG dX11_sure_94 rfl ?_
    refine gg_xs (As := [.int a6, .int a9]) (st := []) hG dX11_sure_96 ml_RX11_119 Y_X11_isIn YS_X11_isIn (mt_X11_isIn h) rfl (by decide) (Nat.le_of_ble_eq_true rfl) rfl (gg_ki (fun v4 u3 h => ?_))
    refine gg_if_eq (tgt := 125) hG dX11_sure_99 (by decide) (fun c5 => ?_) (fun c5 => ?_)
    · replace h := h.1 c5
      exact m_X11_sure_c125 hG h hk59 hk85
    · replace h := h.2 c5
      refine gg_aload_n hG dX11_sure_102 rfl rfl ?_
      refine gg_get (v := .ref 55) hG dX11_sure_103 (by decide) rfl fl_RX11_34 rfl ?_
      refine gg_iload hG dX11_sure_106 rfl ?_
      obtain ⟨h6, h⟩ := h
      refine gg_lald (j := a9.toNatClampNeg) hG dX11_sure_108 (by decide) rfl h6 rfl ?_
      refine gg_lload hG dX11_sure_109 rfl ?_
      refine gg_lcmp hG dX11_sure_111 ?_
      refine gg_if_le (tgt := 125) hG dX11_sure_112 (by decide) (fun c7 => ?_) (fun c7 => ?_)
      · replace h := h.1 c7
        exact m_X11_sure_c125 hG h hk59 hk85
      · replace h := h.2 c7
        refine gg_aload_n hG dX11_sure_115 rfl rfl ?_
        refine gg_get (v := .ref 55) hG dX11_sure_116 (by decide) rfl fl_RX11_34 rfl ?_
        refine gg_iload hG dX11_sure_119 rfl ?_
        obtain ⟨h8, h⟩ := h
        refine gg_lald (j := a9.toNatClampNeg) hG dX11_sure_121 (by decide) rfl h8 rfl ?_
        refine gg_goto (tgt := 127) hG dX11_sure_122 (by decide) ?_
        refine gg_mk hG [true, false, true, true, false, true, true, false, false, true] rfl ?_
        exact m_X11_sure_c127 hG h hk59 hk85
def w_X11_sure_c85 (a2 : Int32) (a3 : Int64) (a5 : Int32) (a6 : Int32) (a7 : Int64) (a9 : Int32) (u : gg_M) (k59 : Int64 × Int32 × gg_M → Prop) (Q : Int64 → gg_M → Prop) : Prop :=
  gg_loop (fun (s : Int64 × Int32 × gg_M) k85 => b_X11_sure_c85 a2 a3 a5 a6 s.1 s.2.1 s.2.2 k59 k85 Q) (a7, a9, u)
set_option maxRecDepth 10000 in
theorem m_X11_sure_c85 {a2 : Int32} {a3 : Int64} {a5 : Int32} {a6 : Int32} {a7 : Int64} {a9 : Int32} {u : gg_M} {k59 : Int64 × Int32 × gg_M → Prop} {G : gg_T} {Q : Int64 → gg_M → Prop} (hG : gg_Cl none cX11_sure 10 RX11 (some .long) 5 (gg_eJ Q) G)  (h : w_X11_sure_c85 a2 a3 a5 a6 a7 a9 u k59 Q)  (hk59 : ∀ s : Int64 × Int32 × gg_M, k59 s → G 59 [some (.ref 1), none, some (.int a2), some (.long s.1), none, some (.int s.2.1), none, none, none, none] [] s.2.2) : G 85 [some (.ref 1), none, some (.int a2), some (.long a3), none, some (.int a5), some (.int a6), some (.long a7), none, some (.int a9)] [] u :=
  gg_loop_use (P := fun s : Int64 × Int32 × gg_M => G 85 [some (.ref 1), none, some (.int a2), some (.long a3), none, some (.int a5), some (.int a6), some (.long s.1), none, some (.int s.2.1)] [] s.2.2) h (fun s rc hb hr => mb_X11_sure_c85 hG  hb  hk59 hr)
def b_X11_sure_c59 (a2 : Int32) (a3 : Int64) (a5 : Int32) (u : gg_M)  (k59 : Int64 × Int32 × gg_M → Prop) (Q : Int64 → gg_M → Prop) : Prop :=
  (7 ≤ a5 →
   w_X11_lowest a3 (u.2 1 12) a2 u (fun v11 u10 =>
   Q v11 u10)) ∧
  (¬ 7 ≤ a5 →
   w_X11_those u (fun v13 u12 =>
   w_X11_groupBy 0 v13 a5 u12 (fun v15 u14 =>
   w_X11_sure_c85 a2 a3 a5 v15 0 0 u14 k59 Q)))
set_option maxRecDepth 10000 in
theorem mb_X11_sure_c59 {a2 : Int32} {a3 : Int64} {a5 : Int32} {u : gg_M}  {k59 : Int64 × Int32 × gg_M → Prop} {G : gg_T} {Q : Int64 → gg_M → Prop} (hG : gg_Cl none cX11_sure 10 RX11 (some .long) 5 (gg_eJ Q) G)  (h : b_X11_sure_c59 a2 a3 a5 u k59 Q)   (hk59 : ∀ s : Int64 × Int32 × gg_M, k59 s → G 59 [some (.ref 1), none, some (.int a2), some (.long s.1), none, some (.int s.2.1), none, none, none, none] [] s.2.2) : G 59 [some (.ref 1), none, some (.int a2), some (.long a3), none, some (.int a5), none, none, none, none] [] u := by
  unfold b_X11_sure_c59 at h
  refine gg_iload hG dX11_sure_59 rfl ?_
  refine gg_bipush (v := 7) hG dX11_sure_61 (by decide) ?_
  refine gg_ic_ge (tgt := 146) hG dX11_sure_63 (by decide) (fun c9 => ?_) (fun c9 => ?_)
  · replace h := h.1 c9
    refine gg_lload_n hG dX11_sure_146 rfl rfl ?_
    refine gg_aload_n hG dX11_sure_147 rfl rfl ?_
    refine gg_get (v := .long (u.2 1 12)) hG dX11_sure_148 (by decide) rfl fl_RX11_135 rfl ?_
    refine gg_iload_n hG dX11_sure_151 rfl rfl ?_
    refine gg_xs (As := [.long a3, .long (u.2 1 12), .int a2]) (st := []) hG dX11_sure_152 ml_RX11_163 Y_X11_lowest YS_X11_lowest (mt_X11_lowest h) rfl (by decide) (Nat.le_of_ble_eq_true rfl) rfl (gg_kj (fun v11 u10 h => ?_))
    exact gg_lret hG dX11_sure_155 rfl ⟨_, rfl, h⟩
  · replace h := h.2 c9
    refine gg_aload_n hG dX11_sure_66 rfl rfl ?_
    refine gg_iconst (v := 0) hG dX11_sure_67 (by decide) ?_
    refine gg_aload_n hG dX11_sure_68 rfl rfl ?_
    refine gg_xv (As := []) (st := [.int 0, .ref 1]) hG dX11_sure_69 ml_RX11_178 Y_X11_those YV_X11_those (by decide) ⟨_, rfl, rfl⟩ (mt_X11_those h) rfl (by decide) (Nat.le_of_ble_eq_true rfl) rfl (gg_ki (fun v13 u12 h => ?_))
    refine gg_iload hG dX11_sure_72 rfl ?_
    refine gg_xv (As := [.int 0, .int v13, .int a5]) (st := []) hG dX11_sure_74 ml_RX11_184 Y_X11_groupBy YV_X11_groupBy (by decide) ⟨_, rfl, rfl⟩ (mt_X11_groupBy h) rfl (by decide) (Nat.le_of_ble_eq_true rfl) rfl (gg_ki (fun v15 u14 h => ?_))
    refine gg_istore (L1 := [some (.ref 1), none, some (.int a2), some (.long a3), none, some (.int a5), some (.int v15), none, none, none]) hG dX11_sure_77 (by decide) rfl ?_
    refine gg_lconst (v := 0) hG dX11_sure_79 (by decide) ?_
    refine gg_lstore (L1 := [some (.ref 1), none, some (.int a2), some (.long a3), none, some (.int a5), some (.int v15), some (.long 0), none, none]) hG dX11_sure_80 (by decide) rfl ?_
    refine gg_iconst (v := 0) hG dX11_sure_82 (by decide) ?_
    refine gg_istore (L1 := [some (.ref 1), none, some (.int a2), some (.long a3), none, some (.int a5), some (.int v15), some (.long 0), none, some (.int 0)]) hG dX11_sure_83 (by decide) rfl ?_
    exact m_X11_sure_c85 hG h hk59
def w_X11_sure_c59 (a2 : Int32) (a3 : Int64) (a5 : Int32) (u : gg_M)  (Q : Int64 → gg_M → Prop) : Prop :=
  gg_loop (fun (s : Int64 × Int32 × gg_M) k59 => b_X11_sure_c59 a2 s.1 s.2.1 s.2.2  k59 Q) (a3, a5, u)
set_option maxRecDepth 10000 in
theorem m_X11_sure_c59 {a2 : Int32} {a3 : Int64} {a5 : Int32} {u : gg_M}  {G : gg_T} {Q : Int64 → gg_M → Prop} (hG : gg_Cl none cX11_sure 10 RX11 (some .long) 5 (gg_eJ Q) G)  (h : w_X11_sure_c59 a2 a3 a5 u  Q)   : G 59 [some (.ref 1), none, some (.int a2), some (.long a3), none, some (.int a5), none, none, none, none] [] u :=
  gg_loop_use (P := fun s : Int64 × Int32 × gg_M => G 59 [some (.ref 1), none, some (.int a2), some (.long s.1), none, some (.int s.2.1), none, none, none, none] [] s.2.2) h (fun s rc hb hr => mb_X11_sure_c59 hG  hb   hr)
def w_X11_sure_c19  (u : gg_M)  (Q : Int64 → gg_M → Prop) : Prop :=
  w_X11_no (-2) u (fun v17 u16 =>
  Q v17 u16)
set_option maxRecDepth 10000 in
theorem m_X11_sure_c19  {u : gg_M}  {G : gg_T} {Q : Int64 → gg_M → Prop} (hG : gg_Cl none cX11_sure 10 RX11 (some .long) 5 (gg_eJ Q) G)  (h : w_X11_sure_c19  u  Q)   : G 19 [none, none, none, none, none, none, none, none, none, none] [] u := by
  unfold w_X11_sure_c19 at h
  refine gg_bipush (v := (-2)) hG dX11_sure_19 (by decide) ?_
  refine gg_xs (As := [.int (-2)]) (st := []) hG dX11_sure_21 ml_RX11_160 Y_X11_no YS_X11_no (mt_X11_no h) rfl (by decide) (Nat.le_of_ble_eq_true rfl) rfl (gg_kj (fun v17 u16 h => ?_))
  exact gg_lret hG dX11_sure_24 rfl ⟨_, rfl, h⟩
def w_X11_sure (a1 : Int32) (a2 : Int32) (u : gg_M)  (Q : Int64 → gg_M → Prop) : Prop :=
  w_X11_in a1 0 9 u (fun v19 u18 =>
  (v19 = 0 →
   w_X11_sure_c19 u18 Q) ∧
  (¬ v19 = 0 →
   w_X11_in a2 0 1 u18 (fun v22 u21 =>
   (¬ v22 = 0 →
    w_X11_lays u21 (fun u24 =>
    (¬ (lg_cmp (u24.2 1 12) 0) = 0 →
     w_X11_those u24 (fun v27 u26 =>
     w_X11_goesOn 0 v27 a1 u26 (fun u28 =>
     w_X11_sure_c59 a2 0 0 u28 Q))) ∧
    ((lg_cmp (u24.2 1 12) 0) = 0 →
     w_X11_no (-3) u24 (fun v30 u29 =>
     Q v30 u29)))) ∧
   (v22 = 0 →
    w_X11_sure_c19 u21 Q))))
set_option maxRecDepth 10000 in
theorem m_X11_sure {a1 : Int32} {a2 : Int32} {u : gg_M}  {G : gg_T} {Q : Int64 → gg_M → Prop} (hG : gg_Cl none cX11_sure 10 RX11 (some .long) 5 (gg_eJ Q) G)  (h : w_X11_sure a1 a2 u  Q)   : G 0 [some (.ref 1), some (.int a1), some (.int a2), none, none, none, none, none, none, none] [] u := by
  unfold w_X11_sure at h
  refine gg_iload_n hG dX11_sure_0 rfl rfl ?_
  refine gg_iconst (v := 0) hG dX11_sure_1 (by decide) ?_
  refine gg_bipush (v := 9) hG dX11_sure_2 (by decide) ?_
  refine gg_xs (As := [.int a1, .int 0, .int 9]) (st := []) hG dX11_sure_4 ml_RX11_68 Y_X11_in YS_X11_in (mt_X11_in h) rfl (by decide) (Nat.le_of_ble_eq_true rfl) rfl (gg_ki (fun v19 u18 h => ?_))
  refine gg_if_eq (tgt := 19) hG dX11_sure_7 (by decide) (fun c20 => ?_) (fun c20 => ?_)
  · replace h := h.1 c20
    refine gg_mk hG [false, false, false, false, false, false, false, false, false, false] rfl ?_
    exact m_X11_sure_c19 hG h
  · replace h := h.2 c20
    refine gg_iload_n hG dX11_sure_10 rfl rfl ?_
    refine gg_iconst (v := 0) hG dX11_sure_11 (by decide) ?_
    refine gg_iconst (v := 1) hG dX11_sure_12 (by decide) ?_
    refine gg_xs (As := [.int a2, .int 0, .int 1]) (st := []) hG dX11_sure_13 ml_RX11_68 Y_X11_in YS_X11_in (mt_X11_in h) rfl (by decide) (Nat.le_of_ble_eq_true rfl) rfl (gg_ki (fun v22 u21 h => ?_))
    refine gg_if_ne (tgt := 25) hG dX11_sure_16 (by decide) (fun c23 => ?_) (fun c23 => ?_)
    · replace h := h.1 c23
      refine gg_aload_n hG dX11_sure_25 rfl rfl ?_
      refine gg_xv (As := []) (st := []) hG dX11_sure_26 ml_RX11_151 Y_X11_lays YV_X11_lays (by decide) ⟨_, rfl, rfl⟩ (mt_X11_lays h) rfl (by decide) (Nat.le_of_ble_eq_true rfl) rfl (gg_kv (fun u24 h => ?_))
      refine gg_aload_n hG dX11_sure_29 rfl rfl ?_
      refine gg_get (v := .long (u24.2 1 12)) hG dX11_sure_30 (by decide) rfl fl_RX11_135 rfl ?_
      refine gg_lconst (v := 0) hG dX11_sure_33 (by decide) ?_
      refine gg_lcmp hG dX11_sure_34 ?_
      refine gg_if_ne (tgt := 44) hG dX11_sure_35 (by decide) (fun c25 => ?_) (fun c25 => ?_)
      · replace h := h.1 c25
        refine gg_aload_n hG dX11_sure_44 rfl rfl ?_
        refine gg_iconst (v := 0) hG dX11_sure_45 (by decide) ?_
        refine gg_aload_n hG dX11_sure_46 rfl rfl ?_
        refine gg_xv (As := []) (st := [.int 0, .ref 1]) hG dX11_sure_47 ml_RX11_178 Y_X11_those YV_X11_those (by decide) ⟨_, rfl, rfl⟩ (mt_X11_those h) rfl (by decide) (Nat.le_of_ble_eq_true rfl) rfl (gg_ki (fun v27 u26 h => ?_))
        refine gg_iload_n hG dX11_sure_50 rfl rfl ?_
        refine gg_xv (As := [.int 0, .int v27, .int a1]) (st := []) hG dX11_sure_51 ml_RX11_181 Y_X11_goesOn YV_X11_goesOn (by decide) ⟨_, rfl, rfl⟩ (mt_X11_goesOn h) rfl (by decide) (Nat.le_of_ble_eq_true rfl) rfl (gg_kv (fun u28 h => ?_))
        refine gg_lconst (v := 0) hG dX11_sure_54 (by decide) ?_
        refine gg_lstore_n (L1 := [some (.ref 1), some (.int a1), some (.int a2), some (.long 0), none, none, none, none, none, none]) hG dX11_sure_55 rfl (by decide) rfl ?_
        refine gg_iconst (v := 0) hG dX11_sure_56 (by decide) ?_
        refine gg_istore (L1 := [some (.ref 1), some (.int a1), some (.int a2), some (.long 0), none, some (.int 0), none, none, none, none]) hG dX11_sure_57 (by decide) rfl ?_
        refine gg_mk hG [true, false, true, true, false, true, false, false, false, false] rfl ?_
        exact m_X11_sure_c59 hG h
      · replace h := h.2 c25
        refine gg_bipush (v := (-3)) hG dX11_sure_38 (by decide) ?_
        refine gg_xs (As := [.int (-3)]) (st := []) hG dX11_sure_40 ml_RX11_160 Y_X11_no YS_X11_no (mt_X11_no h) rfl (by decide) (Nat.le_of_ble_eq_true rfl) rfl (gg_kj (fun v30 u29 h => ?_))
        exact gg_lret hG dX11_sure_43 rfl ⟨_, rfl, h⟩
    · replace h := h.2 c23
      refine gg_mk hG [false, false, false, false, false, false, false, false, false, false] rfl ?_
      exact m_X11_sure_c19 hG h
theorem mt_X11_sure {a1 : Int32} {a2 : Int32}  {u : gg_M} {Q : Int64 → gg_M → Prop} (h : w_X11_sure a1 a2 u Q) : gg_Mt 5 yX11_sure cX11_sure 10 (some .long) [.ref 1, .int a1, .int a2] u (gg_eJ Q) :=
  gg_intro (own := RX11) (by decide +kernel) rfl rfl (Nat.le_of_ble_eq_true rfl) (fun G hG => m_X11_sure hG  h)
/-! X11_inOne -/
def w_X11_inOne_c46 (a1 : Int32) (a2 : Int32) (a5 : Int32) (z0 : Int64) (u : gg_M) (k5 : Int64 × Int32 × gg_M → Prop) (Q : Int64 → gg_M → Prop) : Prop :=
  k5 (z0, (a5 + 1), u)
set_option maxRecDepth 10000 in
theorem m_X11_inOne_c46 {a1 : Int32} {a2 : Int32} {a5 : Int32} {z0 : Int64} {u : gg_M} {k5 : Int64 × Int32 × gg_M → Prop} {G : gg_T} {Q : Int64 → gg_M → Prop} (hG : gg_Cl none cX11_inOne 8 RX11 (some .long) 5 (gg_eJ Q) G)  (h : w_X11_inOne_c46 a1 a2 a5 z0 u k5 Q)  (hk5 : ∀ s : Int64 × Int32 × gg_M, k5 s → G 5 [some (.ref 1), some (.int a1), some (.int a2), some (.long s.1), none, some (.int s.2.1), none, none] [] s.2.2) : G 46 [some (.ref 1), some (.int a1), some (.int a2), none, none, some (.int a5), none, none] [.long z0] u := by
  unfold w_X11_inOne_c46 at h
  refine gg_lstore_n (L1 := [some (.ref 1), some (.int a1), some (.int a2), some (.long z0), none, some (.int a5), none, none]) hG dX11_inOne_46 rfl (by decide) rfl ?_
  refine gg_iinc (v := (a5 + 1)) (L1 := [some (.ref 1), some (.int a1), some (.int a2), some (.long z0), none, some (.int (a5 + 1)), none, none]) hG dX11_inOne_47 rfl rfl (by decide) rfl ?_
  refine gg_goto (tgt := 5) hG dX11_inOne_50 (by decide) ?_
  exact hk5 _ h
def b_X11_inOne_c5 (a1 : Int32) (a2 : Int32) (a3 : Int64) (a5 : Int32) (u : gg_M)  (k5 : Int64 × Int32 × gg_M → Prop) (Q : Int64 → gg_M → Prop) : Prop :=
  (10 ≤ a5 →
   Q a3 u) ∧
  (¬ 10 ≤ a5 →
   w_X11_goesOn a1 a2 a5 u (fun u2 =>
   w_X11_groupBy a1 a2 2 u2 (fun v4 u3 =>
   w_X11_weightOf v4 u3 (fun v6 u5 =>
   ((lg_cmp v6 a3) ≤ 0 →
    w_X11_inOne_c46 a1 a2 a5 a3 u5 k5 Q) ∧
   (¬ (lg_cmp v6 a3) ≤ 0 →
    w_X11_inOne_c46 a1 a2 a5 v6 u5 k5 Q)))))
set_option maxRecDepth 10000 in
theorem mb_X11_inOne_c5 {a1 : Int32} {a2 : Int32} {a3 : Int64} {a5 : Int32} {u : gg_M}  {k5 : Int64 × Int32 × gg_M → Prop} {G : gg_T} {Q : Int64 → gg_M → Prop} (hG : gg_Cl none cX11_inOne 8 RX11 (some .long) 5 (gg_eJ Q) G)  (h : b_X11_inOne_c5 a1 a2 a3 a5 u k5 Q)   (hk5 : ∀ s : Int64 × Int32 × gg_M, k5 s → G 5 [some (.ref 1), some (.int a1), some (.int a2), some (.long s.1), none, some (.int s.2.1), none, none] [] s.2.2) : G 5 [some (.ref 1), some (.int a1), some (.int a2), some (.long a3), none, some (.int a5), none, none] [] u := by
  unfold b_X11_inOne_c5 at h
  refine gg_iload hG dX11_inOne_5 rfl ?_
  refine gg_bipush (v := 10) hG dX11_inOne_7 (by decide) ?_
  refine gg_ic_ge (tgt := 53) hG dX11_inOne_9 (by decide) (fun c1 => ?_) (fun c1 => ?_)
  · replace h := h.1 c1
    refine gg_lload_n hG dX11_inOne_53 rfl rfl ?_
    exact gg_lret hG dX11_inOne_54 rfl ⟨_, rfl, h⟩
  · replace h := h.2 c1
    refine gg_aload_n hG dX11_inOne_12 rfl rfl ?_
    refine gg_iload_n hG dX11_inOne_13 rfl rfl ?_
    refine gg_iload_n hG dX11_inOne_14 rfl rfl ?_
    refine gg_iload hG dX11_inOne_15 rfl ?_
    refine gg_xv (As := [.int a1, .int a2, .int a5]) (st := []) hG dX11_inOne_17 ml_RX11_181 Y_X11_goesOn YV_X11_goesOn (by decide) ⟨_, rfl, rfl⟩ (mt_X11_goesOn h) rfl (by decide) (Nat.le_of_ble_eq_true rfl) rfl (gg_kv (fun u2 h => ?_))
    refine gg_aload_n hG dX11_inOne_20 rfl rfl ?_
    refine gg_aload_n hG dX11_inOne_21 rfl rfl ?_
    refine gg_iload_n hG dX11_inOne_22 rfl rfl ?_
    refine gg_iload_n hG dX11_inOne_23 rfl rfl ?_
    refine gg_iconst (v := 2) hG dX11_inOne_24 (by decide) ?_
    refine gg_xv (As := [.int a1, .int a2, .int 2]) (st := [.ref 1]) hG dX11_inOne_25 ml_RX11_184 Y_X11_groupBy YV_X11_groupBy (by decide) ⟨_, rfl, rfl⟩ (mt_X11_groupBy h) rfl (by decide) (Nat.le_of_ble_eq_true rfl) rfl (gg_ki (fun v4 u3 h => ?_))
    refine gg_xv (As := [.int v4]) (st := []) hG dX11_inOne_28 ml_RX11_187 Y_X11_weightOf YV_X11_weightOf (by decide) ⟨_, rfl, rfl⟩ (mt_X11_weightOf h) rfl (by decide) (Nat.le_of_ble_eq_true rfl) rfl (gg_kj (fun v6 u5 h => ?_))
    refine gg_lstore (L1 := [some (.ref 1), some (.int a1), some (.int a2), some (.long a3), none, some (.int a5), some (.long v6), none]) hG dX11_inOne_31 (by decide) rfl ?_
    refine gg_lload hG dX11_inOne_33 rfl ?_
    refine gg_lload_n hG dX11_inOne_35 rfl rfl ?_
    refine gg_lcmp hG dX11_inOne_36 ?_
    refine gg_if_le (tgt := 45) hG dX11_inOne_37 (by decide) (fun c7 => ?_) (fun c7 => ?_)
    · replace h := h.1 c7
      refine gg_lload_n hG dX11_inOne_45 rfl rfl ?_
      refine gg_mk hG [true, true, true, false, false, true, false, false] rfl ?_
      exact m_X11_inOne_c46 hG h hk5
    · replace h := h.2 c7
      refine gg_lload hG dX11_inOne_40 rfl ?_
      refine gg_goto (tgt := 46) hG dX11_inOne_42 (by decide) ?_
      refine gg_mk hG [true, true, true, false, false, true, false, false] rfl ?_
      exact m_X11_inOne_c46 hG h hk5
def w_X11_inOne_c5 (a1 : Int32) (a2 : Int32) (a3 : Int64) (a5 : Int32) (u : gg_M)  (Q : Int64 → gg_M → Prop) : Prop :=
  gg_loop (fun (s : Int64 × Int32 × gg_M) k5 => b_X11_inOne_c5 a1 a2 s.1 s.2.1 s.2.2  k5 Q) (a3, a5, u)
set_option maxRecDepth 10000 in
theorem m_X11_inOne_c5 {a1 : Int32} {a2 : Int32} {a3 : Int64} {a5 : Int32} {u : gg_M}  {G : gg_T} {Q : Int64 → gg_M → Prop} (hG : gg_Cl none cX11_inOne 8 RX11 (some .long) 5 (gg_eJ Q) G)  (h : w_X11_inOne_c5 a1 a2 a3 a5 u  Q)   : G 5 [some (.ref 1), some (.int a1), some (.int a2), some (.long a3), none, some (.int a5), none, none] [] u :=
  gg_loop_use (P := fun s : Int64 × Int32 × gg_M => G 5 [some (.ref 1), some (.int a1), some (.int a2), some (.long s.1), none, some (.int s.2.1), none, none] [] s.2.2) h (fun s rc hb hr => mb_X11_inOne_c5 hG  hb   hr)
def w_X11_inOne (a1 : Int32) (a2 : Int32) (u : gg_M)  (Q : Int64 → gg_M → Prop) : Prop :=
  w_X11_inOne_c5 a1 a2 0 0 u Q
set_option maxRecDepth 10000 in
theorem m_X11_inOne {a1 : Int32} {a2 : Int32} {u : gg_M}  {G : gg_T} {Q : Int64 → gg_M → Prop} (hG : gg_Cl none cX11_inOne 8 RX11 (some .long) 5 (gg_eJ Q) G)  (h : w_X11_inOne a1 a2 u  Q)   : G 0 [some (.ref 1), some (.int a1), some (.int a2), none, none, none, none, none] [] u := by
  unfold w_X11_inOne at h
  refine gg_lconst (v := 0) hG dX11_inOne_0 (by decide) ?_
  refine gg_lstore_n (L1 := [some (.ref 1), some (.int a1), some (.int a2), some (.long 0), none, none, none, none]) hG dX11_inOne_1 rfl (by decide) rfl ?_
  refine gg_iconst (v := 0) hG dX11_inOne_2 (by decide) ?_
  refine gg_istore (L1 := [some (.ref 1), some (.int a1), some (.int a2), some (.long 0), none, some (.int 0), none, none]) hG dX11_inOne_3 (by decide) rfl ?_
  exact m_X11_inOne_c5 hG h
theorem mt_X11_inOne {a1 : Int32} {a2 : Int32}  {u : gg_M} {Q : Int64 → gg_M → Prop} (h : w_X11_inOne a1 a2 u Q) : gg_Mt 5 yX11_inOne cX11_inOne 8 (some .long) [.ref 1, .int a1, .int a2] u (gg_eJ Q) :=
  gg_intro (own := RX11) (by decide +kernel) rfl rfl (Nat.le_of_ble_eq_true rfl) (fun G hG => m_X11_inOne hG  h)
/-! X11_inTwo -/
def w_X11_inTwo_c105 (a1 : Int32) (a2 : Int32) (a5 : Int32) (z0 : Int64) (u : gg_M) (k5 : Int64 × Int32 × gg_M → Prop) (Q : Int64 → gg_M → Prop) : Prop :=
  k5 (z0, (a5 + 1), u)
set_option maxRecDepth 10000 in
theorem m_X11_inTwo_c105 {a1 : Int32} {a2 : Int32} {a5 : Int32} {z0 : Int64} {u : gg_M} {k5 : Int64 × Int32 × gg_M → Prop} {G : gg_T} {Q : Int64 → gg_M → Prop} (hG : gg_Cl none cX11_inTwo 10 RX11 (some .long) 6 (gg_eJ Q) G)  (h : w_X11_inTwo_c105 a1 a2 a5 z0 u k5 Q)  (hk5 : ∀ s : Int64 × Int32 × gg_M, k5 s → G 5 [some (.ref 1), some (.int a1), some (.int a2), some (.long s.1), none, some (.int s.2.1), none, none, none, none] [] s.2.2) : G 105 [some (.ref 1), some (.int a1), some (.int a2), none, none, some (.int a5), none, none, none, none] [.long z0] u := by
  unfold w_X11_inTwo_c105 at h
  refine gg_lstore_n (L1 := [some (.ref 1), some (.int a1), some (.int a2), some (.long z0), none, some (.int a5), none, none, none, none]) hG dX11_inTwo_105 rfl (by decide) rfl ?_
  refine gg_iinc (v := (a5 + 1)) (L1 := [some (.ref 1), some (.int a1), some (.int a2), some (.long z0), none, some (.int (a5 + 1)), none, none, none, none]) hG dX11_inTwo_106 rfl rfl (by decide) rfl ?_
  refine gg_goto (tgt := 5) hG dX11_inTwo_109 (by decide) ?_
  exact hk5 _ h
def w_X11_inTwo_c83 (a1 : Int32) (a2 : Int32) (a3 : Int64) (a5 : Int32) (a8 : Int32) (z0 : Int64) (z1 : Int64) (u : gg_M) (k5 : Int64 × Int32 × gg_M → Prop) (k36 : Int64 × Int32 × gg_M → Prop) (Q : Int64 → gg_M → Prop) : Prop :=
  ∀ v1 : Int64, v1 = (z0 + z1) →
  k36 (v1, (a8 + 1), u)
set_option maxRecDepth 10000 in
theorem m_X11_inTwo_c83 {a1 : Int32} {a2 : Int32} {a3 : Int64} {a5 : Int32} {a8 : Int32} {z0 : Int64} {z1 : Int64} {u : gg_M} {k5 : Int64 × Int32 × gg_M → Prop} {k36 : Int64 × Int32 × gg_M → Prop} {G : gg_T} {Q : Int64 → gg_M → Prop} (hG : gg_Cl none cX11_inTwo 10 RX11 (some .long) 6 (gg_eJ Q) G)  (h : w_X11_inTwo_c83 a1 a2 a3 a5 a8 z0 z1 u k5 k36 Q)  (hk5 : ∀ s : Int64 × Int32 × gg_M, k5 s → G 5 [some (.ref 1), some (.int a1), some (.int a2), some (.long s.1), none, some (.int s.2.1), none, none, none, none] [] s.2.2) (hk36 : ∀ s : Int64 × Int32 × gg_M, k36 s → G 36 [some (.ref 1), some (.int a1), some (.int a2), some (.long a3), none, some (.int a5), some (.long s.1), none, some (.int s.2.1), none] [] s.2.2) : G 83 [some (.ref 1), some (.int a1), some (.int a2), some (.long a3), none, some (.int a5), none, none, some (.int a8), none] [.long z1, .long z0] u := by
  unfold w_X11_inTwo_c83 at h
  refine gg_ladd hG dX11_inTwo_83 ?_
  refine gg_nl (fun v1 e1 => ?_)
  replace h := h v1 e1
  refine gg_lstore (L1 := [some (.ref 1), some (.int a1), some (.int a2), some (.long a3), none, some (.int a5), some (.long v1), none, some (.int a8), none]) hG dX11_inTwo_84 (by decide) rfl ?_
  refine gg_iinc (v := (a8 + 1)) (L1 := [some (.ref 1), some (.int a1), some (.int a2), some (.long a3), none, some (.int a5), some (.long v1), none, some (.int (a8 + 1)), none]) hG dX11_inTwo_86 rfl rfl (by decide) rfl ?_
  refine gg_goto (tgt := 36) hG dX11_inTwo_89 (by decide) ?_
  exact hk36 _ h
def w_X11_inTwo_c61 (a1 : Int32) (a2 : Int32) (a3 : Int64) (a5 : Int32) (a6 : Int64) (a8 : Int32) (z0 : Int32) (u : gg_M) (k5 : Int64 × Int32 × gg_M → Prop) (k36 : Int64 × Int32 × gg_M → Prop) (Q : Int64 → gg_M → Prop) : Prop :=
  (¬ z0 = 0 →
   w_X11_inOne (a1 + 1) z0 u (fun v4 u3 =>
   w_X11_inTwo_c83 a1 a2 a3 a5 a8 a6 v4 u3 k5 k36 Q)) ∧
  (z0 = 0 →
   w_X11_inTwo_c83 a1 a2 a3 a5 a8 a6 0 u k5 k36 Q)
set_option maxRecDepth 10000 in
theorem m_X11_inTwo_c61 {a1 : Int32} {a2 : Int32} {a3 : Int64} {a5 : Int32} {a6 : Int64} {a8 : Int32} {z0 : Int32} {u : gg_M} {k5 : Int64 × Int32 × gg_M → Prop} {k36 : Int64 × Int32 × gg_M → Prop} {G : gg_T} {Q : Int64 → gg_M → Prop} (hG : gg_Cl none cX11_inTwo 10 RX11 (some .long) 6 (gg_eJ Q) G)  (h : w_X11_inTwo_c61 a1 a2 a3 a5 a6 a8 z0 u k5 k36 Q)  (hk5 : ∀ s : Int64 × Int32 × gg_M, k5 s → G 5 [some (.ref 1), some (.int a1), some (.int a2), some (.long s.1), none, some (.int s.2.1), none, none, none, none] [] s.2.2) (hk36 : ∀ s : Int64 × Int32 × gg_M, k36 s → G 36 [some (.ref 1), some (.int a1), some (.int a2), some (.long a3), none, some (.int a5), some (.long s.1), none, some (.int s.2.1), none] [] s.2.2) : G 61 [some (.ref 1), some (.int a1), some (.int a2), some (.long a3), none, some (.int a5), some (.long a6), none, some (.int a8), none] [.int z0] u := by
  unfold w_X11_inTwo_c61 at h
  refine gg_istore (L1 := [some (.ref 1), some (.int a1), some (.int a2), some (.long a3), none, some (.int a5), some (.long a6), none, some (.int a8), some (.int z0)]) hG dX11_inTwo_61 (by decide) rfl ?_
  refine gg_lload hG dX11_inTwo_63 rfl ?_
  refine gg_iload hG dX11_inTwo_65 rfl ?_
  refine gg_if_ne (tgt := 74) hG dX11_inTwo_67 (by decide) (fun c2 => ?_) (fun c2 => ?_)
  · replace h := h.1 c2
    refine gg_aload_n hG dX11_inTwo_74 rfl rfl ?_
    refine gg_iload_n hG dX11_inTwo_75 rfl rfl ?_
    refine gg_iconst (v := 1) hG dX11_inTwo_76 (by decide) ?_
    refine gg_iadd hG dX11_inTwo_77 ?_
    refine gg_iload hG dX11_inTwo_78 rfl ?_
    refine gg_xv (As := [.int (a1 + 1), .int z0]) (st := [.long a6]) hG dX11_inTwo_80 ml_RX11_197 Y_X11_inOne YV_X11_inOne (by decide) ⟨_, rfl, rfl⟩ (mt_X11_inOne h) rfl (by decide) (Nat.le_of_ble_eq_true rfl) rfl (gg_kj (fun v4 u3 h => ?_))
    refine gg_mk hG [true, true, true, true, false, true, false, false, true, false] rfl ?_
    exact m_X11_inTwo_c83 hG h hk5 hk36
  · replace h := h.2 c2
    refine gg_lconst (v := 0) hG dX11_inTwo_70 (by decide) ?_
    refine gg_goto (tgt := 83) hG dX11_inTwo_71 (by decide) ?_
    refine gg_mk hG [true, true, true, true, false, true, false, false, true, false] rfl ?_
    exact m_X11_inTwo_c83 hG h hk5 hk36
def b_X11_inTwo_c36 (a1 : Int32) (a2 : Int32) (a3 : Int64) (a5 : Int32) (a6 : Int64) (a8 : Int32) (u : gg_M) (k5 : Int64 × Int32 × gg_M → Prop) (k36 : Int64 × Int32 × gg_M → Prop) (Q : Int64 → gg_M → Prop) : Prop :=
  (7 ≤ a8 →
   ((lg_cmp a6 a3) ≤ 0 →
    w_X11_inTwo_c105 a1 a2 a5 a3 u k5 Q) ∧
   (¬ (lg_cmp a6 a3) ≤ 0 →
    w_X11_inTwo_c105 a1 a2 a5 a6 u k5 Q)) ∧
  (¬ 7 ≤ a8 →
   (¬ a8 = 2 →
    w_X11_groupBy a1 a2 a8 u (fun v9 u8 =>
    w_X11_inTwo_c61 a1 a2 a3 a5 a6 a8 v9 u8 k5 k36 Q)) ∧
   (a8 = 2 →
    w_X11_inTwo_c61 a1 a2 a3 a5 a6 a8 0 u k5 k36 Q))
set_option maxRecDepth 10000 in
theorem mb_X11_inTwo_c36 {a1 : Int32} {a2 : Int32} {a3 : Int64} {a5 : Int32} {a6 : Int64} {a8 : Int32} {u : gg_M} {k5 : Int64 × Int32 × gg_M → Prop} {k36 : Int64 × Int32 × gg_M → Prop} {G : gg_T} {Q : Int64 → gg_M → Prop} (hG : gg_Cl none cX11_inTwo 10 RX11 (some .long) 6 (gg_eJ Q) G)  (h : b_X11_inTwo_c36 a1 a2 a3 a5 a6 a8 u k5 k36 Q)  (hk5 : ∀ s : Int64 × Int32 × gg_M, k5 s → G 5 [some (.ref 1), some (.int a1), some (.int a2), some (.long s.1), none, some (.int s.2.1), none, none, none, none] [] s.2.2) (hk36 : ∀ s : Int64 × Int32 × gg_M, k36 s → G 36 [some (.ref 1), some (.int a1), some (.int a2), some (.long a3), none, some (.int a5), some (.long s.1), none, some (.int s.2.1), none] [] s.2.2) : G 36 [some (.ref 1), some (.int a1), some (.int a2), some (.long a3), none, some (.int a5), some (.long a6), none, some (.int a8), none] [] u := by
  unfold b_X11_inTwo_c36 at h
  refine gg_iload hG dX11_inTwo_36 rfl ?_
  refine gg_bipush (v := 7) hG dX11_inTwo_38 (by decide) ?_
  refine gg_ic_ge (tgt := 92) hG dX11_inTwo_40 (by decide) (fun c5 => ?_) (fun c5 => ?_)
  · replace h := h.1 c5
    refine gg_lload hG dX11_inTwo_92 rfl ?_
    refine gg_lload_n hG dX11_inTwo_94 rfl rfl ?_
    refine gg_lcmp hG dX11_inTwo_95 ?_
    refine gg_if_le (tgt := 104) hG dX11_inTwo_96 (by decide) (fun c6 => ?_) (fun c6 => ?_)
    · replace h := h.1 c6
      refine gg_lload_n hG dX11_inTwo_104 rfl rfl ?_
      refine gg_mk hG [true, true, true, false, false, true, false, false, false, false] rfl ?_
      exact m_X11_inTwo_c105 hG h hk5
    · replace h := h.2 c6
      refine gg_lload hG dX11_inTwo_99 rfl ?_
      refine gg_goto (tgt := 105) hG dX11_inTwo_101 (by decide) ?_
      refine gg_mk hG [true, true, true, false, false, true, false, false, false, false] rfl ?_
      exact m_X11_inTwo_c105 hG h hk5
  · replace h := h.2 c5
    refine gg_iload hG dX11_inTwo_43 rfl ?_
    refine gg_iconst (v := 2) hG dX11_inTwo_45 (by decide) ?_
    refine gg_ic_ne (tgt := 53) hG dX11_inTwo_46 (by decide) (fun c7 => ?_) (fun c7 => ?_)
    · replace h := h.1 c7
      refine gg_aload_n hG dX11_inTwo_53 rfl rfl ?_
      refine gg_iload_n hG dX11_inTwo_54 rfl rfl ?_
      refine gg_iload_n hG dX11_inTwo_55 rfl rfl ?_
      refine gg_iload hG dX11_inTwo_56 rfl ?_
      refine gg_xv (As := [.int a1, .int a2, .int a8]) (st := []) hG dX11_inTwo_58 ml_RX11_184 Y_X11_groupBy YV_X11_groupBy (by decide) ⟨_, rfl, rfl⟩ (mt_X11_groupBy h) rfl (by decide) (Nat.le_of_ble_eq_true rfl) rfl (gg_ki (fun v9 u8 h => ?_))
      exact m_X11_inTwo_c61 hG h hk5 hk36
    · replace h := h.2 c7
      refine gg_iconst (v := 0) hG dX11_inTwo_49 (by decide) ?_
      refine gg_goto (tgt := 61) hG dX11_inTwo_50 (by decide) ?_
      exact m_X11_inTwo_c61 hG h hk5 hk36
def w_X11_inTwo_c36 (a1 : Int32) (a2 : Int32) (a3 : Int64) (a5 : Int32) (a6 : Int64) (a8 : Int32) (u : gg_M) (k5 : Int64 × Int32 × gg_M → Prop) (Q : Int64 → gg_M → Prop) : Prop :=
  gg_loop (fun (s : Int64 × Int32 × gg_M) k36 => b_X11_inTwo_c36 a1 a2 a3 a5 s.1 s.2.1 s.2.2 k5 k36 Q) (a6, a8, u)
set_option maxRecDepth 10000 in
theorem m_X11_inTwo_c36 {a1 : Int32} {a2 : Int32} {a3 : Int64} {a5 : Int32} {a6 : Int64} {a8 : Int32} {u : gg_M} {k5 : Int64 × Int32 × gg_M → Prop} {G : gg_T} {Q : Int64 → gg_M → Prop} (hG : gg_Cl none cX11_inTwo 10 RX11 (some .long) 6 (gg_eJ Q) G)  (h : w_X11_inTwo_c36 a1 a2 a3 a5 a6 a8 u k5 Q)  (hk5 : ∀ s : Int64 × Int32 × gg_M, k5 s → G 5 [some (.ref 1), some (.int a1), some (.int a2), some (.long s.1), none, some (.int s.2.1), none, none, none, none] [] s.2.2) : G 36 [some (.ref 1), some (.int a1), some (.int a2), some (.long a3), none, some (.int a5), some (.long a6), none, some (.int a8), none] [] u :=
  gg_loop_use (P := fun s : Int64 × Int32 × gg_M => G 36 [some (.ref 1), some (.int a1), some (.int a2), some (.long a3), none, some (.int a5), some (.long s.1), none, some (.int s.2.1), none] [] s.2.2) h (fun s rc hb hr => mb_X11_inTwo_c36 hG  hb  hk5 hr)
def b_X11_inTwo_c5 (a1 : Int32) (a2 : Int32) (a3 : Int64) (a5 : Int32) (u : gg_M)  (k5 : Int64 × Int32 × gg_M → Prop) (Q : Int64 → gg_M → Prop) : Prop :=
  (10 ≤ a5 →
   Q a3 u) ∧
  (¬ 10 ≤ a5 →
   w_X11_goesOn a1 a2 a5 u (fun u11 =>
   w_X11_groupBy a1 a2 2 u11 (fun v13 u12 =>
   w_X11_weightOf v13 u12 (fun v15 u14 =>
   w_X11_inTwo_c36 a1 a2 a3 a5 v15 0 u14 k5 Q))))
set_option maxRecDepth 10000 in
theorem mb_X11_inTwo_c5 {a1 : Int32} {a2 : Int32} {a3 : Int64} {a5 : Int32} {u : gg_M}  {k5 : Int64 × Int32 × gg_M → Prop} {G : gg_T} {Q : Int64 → gg_M → Prop} (hG : gg_Cl none cX11_inTwo 10 RX11 (some .long) 6 (gg_eJ Q) G)  (h : b_X11_inTwo_c5 a1 a2 a3 a5 u k5 Q)   (hk5 : ∀ s : Int64 × Int32 × gg_M, k5 s → G 5 [some (.ref 1), some (.int a1), some (.int a2), some (.long s.1), none, some (.int s.2.1), none, none, none, none] [] s.2.2) : G 5 [some (.ref 1), some (.int a1), some (.int a2), some (.long a3), none, some (.int a5), none, none, none, none] [] u := by
  unfold b_X11_inTwo_c5 at h
  refine gg_iload hG dX11_inTwo_5 rfl ?_
  refine gg_bipush (v := 10) hG dX11_inTwo_7 (by decide) ?_
  refine gg_ic_ge (tgt := 112) hG dX11_inTwo_9 (by decide) (fun c10 => ?_) (fun c10 => ?_)
  · replace h := h.1 c10
    refine gg_lload_n hG dX11_inTwo_112 rfl rfl ?_
    exact gg_lret hG dX11_inTwo_113 rfl ⟨_, rfl, h⟩
  · replace h := h.2 c10
    refine gg_aload_n hG dX11_inTwo_12 rfl rfl ?_
    refine gg_iload_n hG dX11_inTwo_13 rfl rfl ?_
    refine gg_iload_n hG dX11_inTwo_14 rfl rfl ?_
    refine gg_iload hG dX11_inTwo_15 rfl ?_
    refine gg_xv (As := [.int a1, .int a2, .int a5]) (st := []) hG dX11_inTwo_17 ml_RX11_181 Y_X11_goesOn YV_X11_goesOn (by decide) ⟨_, rfl, rfl⟩ (mt_X11_goesOn h) rfl (by decide) (Nat.le_of_ble_eq_true rfl) rfl (gg_kv (fun u11 h => ?_))
    refine gg_aload_n hG dX11_inTwo_20 rfl rfl ?_
    refine gg_aload_n hG dX11_inTwo_21 rfl rfl ?_
    refine gg_iload_n hG dX11_inTwo_22 rfl rfl ?_
    refine gg_iload_n hG dX11_inTwo_23 rfl rfl ?_
    refine gg_iconst (v := 2) hG dX11_inTwo_24 (by decide) ?_
    refine gg_xv (As := [.int a1, .int a2, .int 2]) (st := [.ref 1]) hG dX11_inTwo_25 ml_RX11_184 Y_X11_groupBy YV_X11_groupBy (by decide) ⟨_, rfl, rfl⟩ (mt_X11_groupBy h) rfl (by decide) (Nat.le_of_ble_eq_true rfl) rfl (gg_ki (fun v13 u12 h => ?_))
    refine gg_xv (As := [.int v13]) (st := []) hG dX11_inTwo_28 ml_RX11_187 Y_X11_weightOf YV_X11_weightOf (by decide) ⟨_, rfl, rfl⟩ (mt_X11_weightOf h) rfl (by decide) (Nat.le_of_ble_eq_true rfl) rfl (gg_kj (fun v15 u14 h => ?_))
    refine gg_lstore (L1 := [some (.ref 1), some (.int a1), some (.int a2), some (.long a3), none, some (.int a5), some (.long v15), none, none, none]) hG dX11_inTwo_31 (by decide) rfl ?_
    refine gg_iconst (v := 0) hG dX11_inTwo_33 (by decide) ?_
    refine gg_istore (L1 := [some (.ref 1), some (.int a1), some (.int a2), some (.long a3), none, some (.int a5), some (.long v15), none, some (.int 0), none]) hG dX11_inTwo_34 (by decide) rfl ?_
    exact m_X11_inTwo_c36 hG h hk5
def w_X11_inTwo_c5 (a1 : Int32) (a2 : Int32) (a3 : Int64) (a5 : Int32) (u : gg_M)  (Q : Int64 → gg_M → Prop) : Prop :=
  gg_loop (fun (s : Int64 × Int32 × gg_M) k5 => b_X11_inTwo_c5 a1 a2 s.1 s.2.1 s.2.2  k5 Q) (a3, a5, u)
set_option maxRecDepth 10000 in
theorem m_X11_inTwo_c5 {a1 : Int32} {a2 : Int32} {a3 : Int64} {a5 : Int32} {u : gg_M}  {G : gg_T} {Q : Int64 → gg_M → Prop} (hG : gg_Cl none cX11_inTwo 10 RX11 (some .long) 6 (gg_eJ Q) G)  (h : w_X11_inTwo_c5 a1 a2 a3 a5 u  Q)   : G 5 [some (.ref 1), some (.int a1), some (.int a2), some (.long a3), none, some (.int a5), none, none, none, none] [] u :=
  gg_loop_use (P := fun s : Int64 × Int32 × gg_M => G 5 [some (.ref 1), some (.int a1), some (.int a2), some (.long s.1), none, some (.int s.2.1), none, none, none, none] [] s.2.2) h (fun s rc hb hr => mb_X11_inTwo_c5 hG  hb   hr)
def w_X11_inTwo (a1 : Int32) (a2 : Int32) (u : gg_M)  (Q : Int64 → gg_M → Prop) : Prop :=
  w_X11_inTwo_c5 a1 a2 0 0 u Q
set_option maxRecDepth 10000 in
theorem m_X11_inTwo {a1 : Int32} {a2 : Int32} {u : gg_M}  {G : gg_T} {Q : Int64 → gg_M → Prop} (hG : gg_Cl none cX11_inTwo 10 RX11 (some .long) 6 (gg_eJ Q) G)  (h : w_X11_inTwo a1 a2 u  Q)   : G 0 [some (.ref 1), some (.int a1), some (.int a2), none, none, none, none, none, none, none] [] u := by
  unfold w_X11_inTwo at h
  refine gg_lconst (v := 0) hG dX11_inTwo_0 (by decide) ?_
  refine gg_lstore_n (L1 := [some (.ref 1), some (.int a1), some (.int a2), some (.long 0), none, none, none, none, none, none]) hG dX11_inTwo_1 rfl (by decide) rfl ?_
  refine gg_iconst (v := 0) hG dX11_inTwo_2 (by decide) ?_
  refine gg_istore (L1 := [some (.ref 1), some (.int a1), some (.int a2), some (.long 0), none, some (.int 0), none, none, none, none]) hG dX11_inTwo_3 (by decide) rfl ?_
  exact m_X11_inTwo_c5 hG h
theorem mt_X11_inTwo {a1 : Int32} {a2 : Int32}  {u : gg_M} {Q : Int64 → gg_M → Prop} (h : w_X11_inTwo a1 a2 u Q) : gg_Mt 6 yX11_inTwo cX11_inTwo 10 (some .long) [.ref 1, .int a1, .int a2] u (gg_eJ Q) :=
  gg_intro (own := RX11) (by decide +kernel) rfl rfl (Nat.le_of_ble_eq_true rfl) (fun G hG => m_X11_inTwo hG  h)
/-! X11_bestNow -/
def w_X11_bestNow_c279 (z0 : Int64) (u : gg_M)  (Q : Int64 → gg_M → Prop) : Prop :=
  Q z0 u
set_option maxRecDepth 10000 in
theorem m_X11_bestNow_c279 {z0 : Int64} {u : gg_M}  {G : gg_T} {Q : Int64 → gg_M → Prop} (hG : gg_Cl none cX11_bestNow 13 RX11 (some .long) 7 (gg_eJ Q) G)  (h : w_X11_bestNow_c279 z0 u  Q)   : G 279 [none, none, none, none, none, none, none, none, none, none, none, none, none] [.long z0] u := by
  unfold w_X11_bestNow_c279 at h
  exact gg_lret hG dX11_bestNow_279 rfl ⟨_, rfl, h⟩
def w_X11_bestNow_c250 (a1 : Int32) (a2 : Int32) (a3 : Int32) (a4 : Int32) (a5 : Int32) (a8 : Int32) (z0 : Int64) (u : gg_M) (k90 : Int32 × Int64 × Int32 × gg_M → Prop) (Q : Int64 → gg_M → Prop) : Prop :=
  k90 (a5, z0, (a8 + 1), u)
set_option maxRecDepth 10000 in
theorem m_X11_bestNow_c250 {a1 : Int32} {a2 : Int32} {a3 : Int32} {a4 : Int32} {a5 : Int32} {a8 : Int32} {z0 : Int64} {u : gg_M} {k90 : Int32 × Int64 × Int32 × gg_M → Prop} {G : gg_T} {Q : Int64 → gg_M → Prop} (hG : gg_Cl none cX11_bestNow 13 RX11 (some .long) 7 (gg_eJ Q) G)  (h : w_X11_bestNow_c250 a1 a2 a3 a4 a5 a8 z0 u k90 Q)  (hk90 : ∀ s : Int32 × Int64 × Int32 × gg_M, k90 s → G 90 [some (.ref 1), some (.int a1), some (.int a2), some (.int a3), some (.int a4), some (.int s.1), some (.long s.2.1), none, some (.int s.2.2.1), none, none, none, none] [] s.2.2.2) : G 250 [some (.ref 1), some (.int a1), some (.int a2), some (.int a3), some (.int a4), some (.int a5), none, none, some (.int a8), none, none, none, none] [.long z0] u := by
  unfold w_X11_bestNow_c250 at h
  refine gg_lstore (L1 := [some (.ref 1), some (.int a1), some (.int a2), some (.int a3), some (.int a4), some (.int a5), some (.long z0), none, some (.int a8), none, none, none, none]) hG dX11_bestNow_250 (by decide) rfl ?_
  refine gg_iinc (v := (a8 + 1)) (L1 := [some (.ref 1), some (.int a1), some (.int a2), some (.int a3), some (.int a4), some (.int a5), some (.long z0), none, some (.int (a8 + 1)), none, none, none, none]) hG dX11_bestNow_252 rfl rfl (by decide) rfl ?_
  refine gg_goto (tgt := 90) hG dX11_bestNow_255 (by decide) ?_
  exact hk90 _ h
def w_X11_bestNow_c233 (a1 : Int32) (a2 : Int32) (a3 : Int32) (a4 : Int32) (a6 : Int64) (a8 : Int32) (a9 : Int64) (z0 : Int32) (u : gg_M) (k90 : Int32 × Int64 × Int32 × gg_M → Prop) (Q : Int64 → gg_M → Prop) : Prop :=
  ((lg_cmp a9 a6) ≤ 0 →
   w_X11_bestNow_c250 a1 a2 a3 a4 z0 a8 a6 u k90 Q) ∧
  (¬ (lg_cmp a9 a6) ≤ 0 →
   w_X11_bestNow_c250 a1 a2 a3 a4 z0 a8 a9 u k90 Q)
set_option maxRecDepth 10000 in
theorem m_X11_bestNow_c233 {a1 : Int32} {a2 : Int32} {a3 : Int32} {a4 : Int32} {a6 : Int64} {a8 : Int32} {a9 : Int64} {z0 : Int32} {u : gg_M} {k90 : Int32 × Int64 × Int32 × gg_M → Prop} {G : gg_T} {Q : Int64 → gg_M → Prop} (hG : gg_Cl none cX11_bestNow 13 RX11 (some .long) 7 (gg_eJ Q) G)  (h : w_X11_bestNow_c233 a1 a2 a3 a4 a6 a8 a9 z0 u k90 Q)  (hk90 : ∀ s : Int32 × Int64 × Int32 × gg_M, k90 s → G 90 [some (.ref 1), some (.int a1), some (.int a2), some (.int a3), some (.int a4), some (.int s.1), some (.long s.2.1), none, some (.int s.2.2.1), none, none, none, none] [] s.2.2.2) : G 233 [some (.ref 1), some (.int a1), some (.int a2), some (.int a3), some (.int a4), none, some (.long a6), none, some (.int a8), some (.long a9), none, none, none] [.int z0] u := by
  unfold w_X11_bestNow_c233 at h
  refine gg_istore (L1 := [some (.ref 1), some (.int a1), some (.int a2), some (.int a3), some (.int a4), some (.int z0), some (.long a6), none, some (.int a8), some (.long a9), none, none, none]) hG dX11_bestNow_233 (by decide) rfl ?_
  refine gg_lload hG dX11_bestNow_235 rfl ?_
  refine gg_lload hG dX11_bestNow_237 rfl ?_
  refine gg_lcmp hG dX11_bestNow_239 ?_
  refine gg_if_le (tgt := 248) hG dX11_bestNow_240 (by decide) (fun c1 => ?_) (fun c1 => ?_)
  · replace h := h.1 c1
    refine gg_lload hG dX11_bestNow_248 rfl ?_
    refine gg_mk hG [true, true, true, true, true, true, false, false, true, false, false, false, false] rfl ?_
    exact m_X11_bestNow_c250 hG h hk90
  · replace h := h.2 c1
    refine gg_lload hG dX11_bestNow_243 rfl ?_
    refine gg_goto (tgt := 250) hG dX11_bestNow_245 (by decide) ?_
    refine gg_mk hG [true, true, true, true, true, true, false, false, true, false, false, false, false] rfl ?_
    exact m_X11_bestNow_c250 hG h hk90
def w_X11_bestNow_c226 (a1 : Int32) (a2 : Int32) (a3 : Int32) (a4 : Int32) (a6 : Int64) (a8 : Int32) (a9 : Int64) (u : gg_M) (k90 : Int32 × Int64 × Int32 × gg_M → Prop) (Q : Int64 → gg_M → Prop) : Prop :=
  w_X11_bestNow_c233 a1 a2 a3 a4 a6 a8 a9 a8 u k90 Q
set_option maxRecDepth 10000 in
theorem m_X11_bestNow_c226 {a1 : Int32} {a2 : Int32} {a3 : Int32} {a4 : Int32} {a6 : Int64} {a8 : Int32} {a9 : Int64} {u : gg_M} {k90 : Int32 × Int64 × Int32 × gg_M → Prop} {G : gg_T} {Q : Int64 → gg_M → Prop} (hG : gg_Cl none cX11_bestNow 13 RX11 (some .long) 7 (gg_eJ Q) G)  (h : w_X11_bestNow_c226 a1 a2 a3 a4 a6 a8 a9 u k90 Q)  (hk90 : ∀ s : Int32 × Int64 × Int32 × gg_M, k90 s → G 90 [some (.ref 1), some (.int a1), some (.int a2), some (.int a3), some (.int a4), some (.int s.1), some (.long s.2.1), none, some (.int s.2.2.1), none, none, none, none] [] s.2.2.2) : G 226 [some (.ref 1), some (.int a1), some (.int a2), some (.int a3), some (.int a4), none, some (.long a6), none, some (.int a8), some (.long a9), none, none, none] [] u := by
  unfold w_X11_bestNow_c226 at h
  refine gg_iload hG dX11_bestNow_226 rfl ?_
  refine gg_goto (tgt := 233) hG dX11_bestNow_228 (by decide) ?_
  exact m_X11_bestNow_c233 hG h hk90
def w_X11_bestNow_c212 (a1 : Int32) (a2 : Int32) (a3 : Int32) (a4 : Int32) (a5 : Int32) (a6 : Int64) (a8 : Int32) (a9 : Int64) (u : gg_M) (k90 : Int32 × Int64 × Int32 × gg_M → Prop) (Q : Int64 → gg_M → Prop) : Prop :=
  (a5 = (-1) →
   w_X11_bestNow_c226 a1 a2 a3 a4 a6 a8 a9 u k90 Q) ∧
  (¬ a5 = (-1) →
   ((lg_cmp a9 a6) ≤ 0 →
    w_X11_bestNow_c233 a1 a2 a3 a4 a6 a8 a9 a5 u k90 Q) ∧
   (¬ (lg_cmp a9 a6) ≤ 0 →
    w_X11_bestNow_c226 a1 a2 a3 a4 a6 a8 a9 u k90 Q))
set_option maxRecDepth 10000 in
theorem m_X11_bestNow_c212 {a1 : Int32} {a2 : Int32} {a3 : Int32} {a4 : Int32} {a5 : Int32} {a6 : Int64} {a8 : Int32} {a9 : Int64} {u : gg_M} {k90 : Int32 × Int64 × Int32 × gg_M → Prop} {G : gg_T} {Q : Int64 → gg_M → Prop} (hG : gg_Cl none cX11_bestNow 13 RX11 (some .long) 7 (gg_eJ Q) G)  (h : w_X11_bestNow_c212 a1 a2 a3 a4 a5 a6 a8 a9 u k90 Q)  (hk90 : ∀ s : Int32 × Int64 × Int32 × gg_M, k90 s → G 90 [some (.ref 1), some (.int a1), some (.int a2), some (.int a3), some (.int a4), some (.int s.1), some (.long s.2.1), none, some (.int s.2.2.1), none, none, none, none] [] s.2.2.2) : G 212 [some (.ref 1), some (.int a1), some (.int a2), some (.int a3), some (.int a4), some (.int a5), some (.long a6), none, some (.int a8), some (.long a9), none, none, none] [] u := by
  unfold w_X11_bestNow_c212 at h
  refine gg_iload hG dX11_bestNow_212 rfl ?_
  refine gg_iconst (v := (-1)) hG dX11_bestNow_214 (by decide) ?_
  refine gg_ic_eq (tgt := 226) hG dX11_bestNow_215 (by decide) (fun c2 => ?_) (fun c2 => ?_)
  · replace h := h.1 c2
    refine gg_mk hG [true, true, true, true, true, false, true, false, true, true, false, false, false] rfl ?_
    exact m_X11_bestNow_c226 hG h hk90
  · replace h := h.2 c2
    refine gg_lload hG dX11_bestNow_218 rfl ?_
    refine gg_lload hG dX11_bestNow_220 rfl ?_
    refine gg_lcmp hG dX11_bestNow_222 ?_
    refine gg_if_le (tgt := 231) hG dX11_bestNow_223 (by decide) (fun c3 => ?_) (fun c3 => ?_)
    · replace h := h.1 c3
      refine gg_iload hG dX11_bestNow_231 rfl ?_
      refine gg_mk hG [true, true, true, true, true, false, true, false, true, true, false, false, false] rfl ?_
      exact m_X11_bestNow_c233 hG h hk90
    · replace h := h.2 c3
      refine gg_mk hG [true, true, true, true, true, false, true, false, true, true, false, false, false] rfl ?_
      exact m_X11_bestNow_c226 hG h hk90
def w_X11_bestNow_c203 (a1 : Int32) (a2 : Int32) (a3 : Int32) (a4 : Int32) (a5 : Int32) (a6 : Int64) (a8 : Int32) (a11 : Int32) (z0 : Int64) (z1 : Int64) (u : gg_M) (k90 : Int32 × Int64 × Int32 × gg_M → Prop) (k133 : Int64 × Int32 × gg_M → Prop) (Q : Int64 → gg_M → Prop) : Prop :=
  ∀ v4 : Int64, v4 = (z0 + z1) →
  k133 (v4, (a11 + 1), u)
set_option maxRecDepth 10000 in
theorem m_X11_bestNow_c203 {a1 : Int32} {a2 : Int32} {a3 : Int32} {a4 : Int32} {a5 : Int32} {a6 : Int64} {a8 : Int32} {a11 : Int32} {z0 : Int64} {z1 : Int64} {u : gg_M} {k90 : Int32 × Int64 × Int32 × gg_M → Prop} {k133 : Int64 × Int32 × gg_M → Prop} {G : gg_T} {Q : Int64 → gg_M → Prop} (hG : gg_Cl none cX11_bestNow 13 RX11 (some .long) 7 (gg_eJ Q) G)  (h : w_X11_bestNow_c203 a1 a2 a3 a4 a5 a6 a8 a11 z0 z1 u k90 k133 Q)  (hk90 : ∀ s : Int32 × Int64 × Int32 × gg_M, k90 s → G 90 [some (.ref 1), some (.int a1), some (.int a2), some (.int a3), some (.int a4), some (.int s.1), some (.long s.2.1), none, some (.int s.2.2.1), none, none, none, none] [] s.2.2.2) (hk133 : ∀ s : Int64 × Int32 × gg_M, k133 s → G 133 [some (.ref 1), some (.int a1), some (.int a2), some (.int a3), some (.int a4), some (.int a5), some (.long a6), none, some (.int a8), some (.long s.1), none, some (.int s.2.1), none] [] s.2.2) : G 203 [some (.ref 1), some (.int a1), some (.int a2), some (.int a3), some (.int a4), some (.int a5), some (.long a6), none, some (.int a8), none, none, some (.int a11), none] [.long z1, .long z0] u := by
  unfold w_X11_bestNow_c203 at h
  refine gg_ladd hG dX11_bestNow_203 ?_
  refine gg_nl (fun v4 e4 => ?_)
  replace h := h v4 e4
  refine gg_lstore (L1 := [some (.ref 1), some (.int a1), some (.int a2), some (.int a3), some (.int a4), some (.int a5), some (.long a6), none, some (.int a8), some (.long v4), none, some (.int a11), none]) hG dX11_bestNow_204 (by decide) rfl ?_
  refine gg_iinc (v := (a11 + 1)) (L1 := [some (.ref 1), some (.int a1), some (.int a2), some (.int a3), some (.int a4), some (.int a5), some (.long a6), none, some (.int a8), some (.long v4), none, some (.int (a11 + 1)), none]) hG dX11_bestNow_206 rfl rfl (by decide) rfl ?_
  refine gg_goto (tgt := 133) hG dX11_bestNow_209 (by decide) ?_
  exact hk133 _ h
def w_X11_bestNow_c168 (a1 : Int32) (a2 : Int32) (a3 : Int32) (a4 : Int32) (a5 : Int32) (a6 : Int64) (a8 : Int32) (a9 : Int64) (a11 : Int32) (z0 : Int32) (u : gg_M) (k90 : Int32 × Int64 × Int32 × gg_M → Prop) (k133 : Int64 × Int32 × gg_M → Prop) (Q : Int64 → gg_M → Prop) : Prop :=
  (¬ z0 = 0 →
   (¬ a1 = 2 →
    w_X11_inTwo 1 z0 u (fun v8 u7 =>
    w_X11_bestNow_c203 a1 a2 a3 a4 a5 a6 a8 a11 a9 v8 u7 k90 k133 Q)) ∧
   (a1 = 2 →
    w_X11_inOne 1 z0 u (fun v10 u9 =>
    w_X11_bestNow_c203 a1 a2 a3 a4 a5 a6 a8 a11 a9 v10 u9 k90 k133 Q))) ∧
  (z0 = 0 →
   w_X11_bestNow_c203 a1 a2 a3 a4 a5 a6 a8 a11 a9 0 u k90 k133 Q)
set_option maxRecDepth 10000 in
theorem m_X11_bestNow_c168 {a1 : Int32} {a2 : Int32} {a3 : Int32} {a4 : Int32} {a5 : Int32} {a6 : Int64} {a8 : Int32} {a9 : Int64} {a11 : Int32} {z0 : Int32} {u : gg_M} {k90 : Int32 × Int64 × Int32 × gg_M → Prop} {k133 : Int64 × Int32 × gg_M → Prop} {G : gg_T} {Q : Int64 → gg_M → Prop} (hG : gg_Cl none cX11_bestNow 13 RX11 (some .long) 7 (gg_eJ Q) G)  (h : w_X11_bestNow_c168 a1 a2 a3 a4 a5 a6 a8 a9 a11 z0 u k90 k133 Q)  (hk90 : ∀ s : Int32 × Int64 × Int32 × gg_M, k90 s → G 90 [some (.ref 1), some (.int a1), some (.int a2), some (.int a3), some (.int a4), some (.int s.1), some (.long s.2.1), none, some (.int s.2.2.1), none, none, none, none] [] s.2.2.2) (hk133 : ∀ s : Int64 × Int32 × gg_M, k133 s → G 133 [some (.ref 1), some (.int a1), some (.int a2), some (.int a3), some (.int a4), some (.int a5), some (.long a6), none, some (.int a8), some (.long s.1), none, some (.int s.2.1), none] [] s.2.2) : G 168 [some (.ref 1), some (.int a1), some (.int a2), some (.int a3), some (.int a4), some (.int a5), some (.long a6), none, some (.int a8), some (.long a9), none, some (.int a11), none] [.int z0] u := by
  unfold w_X11_bestNow_c168 at h
  refine gg_istore (L1 := [some (.ref 1), some (.int a1), some (.int a2), some (.int a3), some (.int a4), some (.int a5), some (.long a6), none, some (.int a8), some (.long a9), none, some (.int a11), some (.int z0)]) hG dX11_bestNow_168 (by decide) rfl ?_
  refine gg_lload hG dX11_bestNow_170 rfl ?_
  refine gg_iload hG dX11_bestNow_172 rfl ?_
  refine gg_if_ne (tgt := 181) hG dX11_bestNow_174 (by decide) (fun c5 => ?_) (fun c5 => ?_)
  · replace h := h.1 c5
    refine gg_iload_n hG dX11_bestNow_181 rfl rfl ?_
    refine gg_iconst (v := 2) hG dX11_bestNow_182 (by decide) ?_
    refine gg_ic_ne (tgt := 196) hG dX11_bestNow_183 (by decide) (fun c6 => ?_) (fun c6 => ?_)
    · replace h := h.1 c6
      refine gg_aload_n hG dX11_bestNow_196 rfl rfl ?_
      refine gg_iconst (v := 1) hG dX11_bestNow_197 (by decide) ?_
      refine gg_iload hG dX11_bestNow_198 rfl ?_
      refine gg_xv (As := [.int 1, .int z0]) (st := [.long a9]) hG dX11_bestNow_200 ml_RX11_200 Y_X11_inTwo YV_X11_inTwo (by decide) ⟨_, rfl, rfl⟩ (mt_X11_inTwo h) rfl (by decide) (Nat.le_of_ble_eq_true rfl) rfl (gg_kj (fun v8 u7 h => ?_))
      refine gg_mk hG [true, true, true, true, true, true, true, false, true, false, false, true, false] rfl ?_
      exact m_X11_bestNow_c203 hG h hk90 hk133
    · replace h := h.2 c6
      refine gg_aload_n hG dX11_bestNow_186 rfl rfl ?_
      refine gg_iconst (v := 1) hG dX11_bestNow_187 (by decide) ?_
      refine gg_iload hG dX11_bestNow_188 rfl ?_
      refine gg_xv (As := [.int 1, .int z0]) (st := [.long a9]) hG dX11_bestNow_190 ml_RX11_197 Y_X11_inOne YV_X11_inOne (by decide) ⟨_, rfl, rfl⟩ (mt_X11_inOne h) rfl (by decide) (Nat.le_of_ble_eq_true rfl) rfl (gg_kj (fun v10 u9 h => ?_))
      refine gg_goto (tgt := 203) hG dX11_bestNow_193 (by decide) ?_
      refine gg_mk hG [true, true, true, true, true, true, true, false, true, false, false, true, false] rfl ?_
      exact m_X11_bestNow_c203 hG h hk90 hk133
  · replace h := h.2 c5
    refine gg_lconst (v := 0) hG dX11_bestNow_177 (by decide) ?_
    refine gg_goto (tgt := 203) hG dX11_bestNow_178 (by decide) ?_
    refine gg_mk hG [true, true, true, true, true, true, true, false, true, false, false, true, false] rfl ?_
    exact m_X11_bestNow_c203 hG h hk90 hk133
def b_X11_bestNow_c133 (a1 : Int32) (a2 : Int32) (a3 : Int32) (a4 : Int32) (a5 : Int32) (a6 : Int64) (a8 : Int32) (a9 : Int64) (a11 : Int32) (u : gg_M) (k90 : Int32 × Int64 × Int32 × gg_M → Prop) (k133 : Int64 × Int32 × gg_M → Prop) (Q : Int64 → gg_M → Prop) : Prop :=
  (7 ≤ a11 →
   w_X11_bestNow_c212 a1 a2 a3 a4 a5 a6 a8 a9 u k90 Q) ∧
  (¬ 7 ≤ a11 →
   (a1 ≤ 1 →
    w_X11_bestNow_c212 a1 a2 a3 a4 a5 a6 a8 a9 u k90 Q) ∧
   (¬ a1 ≤ 1 →
    (¬ a4 = 0 →
     w_X11_bestNow_c212 a1 a2 a3 a4 a5 a6 a8 a9 u k90 Q) ∧
    (a4 = 0 →
     (¬ a11 = 2 →
      w_X11_groupBy 0 a3 a11 u (fun v16 u15 =>
      w_X11_bestNow_c168 a1 a2 a3 a4 a5 a6 a8 a9 a11 v16 u15 k90 k133 Q)) ∧
     (a11 = 2 →
      w_X11_bestNow_c168 a1 a2 a3 a4 a5 a6 a8 a9 a11 0 u k90 k133 Q))))
set_option maxRecDepth 10000 in
theorem mb_X11_bestNow_c133 {a1 : Int32} {a2 : Int32} {a3 : Int32} {a4 : Int32} {a5 : Int32} {a6 : Int64} {a8 : Int32} {a9 : Int64} {a11 : Int32} {u : gg_M} {k90 : Int32 × Int64 × Int32 × gg_M → Prop} {k133 : Int64 × Int32 × gg_M → Prop} {G : gg_T} {Q : Int64 → gg_M → Prop} (hG : gg_Cl none cX11_bestNow 13 RX11 (some .long) 7 (gg_eJ Q) G)  (h : b_X11_bestNow_c133 a1 a2 a3 a4 a5 a6 a8 a9 a11 u k90 k133 Q)  (hk90 : ∀ s : Int32 × Int64 × Int32 × gg_M, k90 s → G 90 [some (.ref 1), some (.int a1), some (.int a2), some (.int a3), some (.int a4), some (.int s.1), some (.long s.2.1), none, some (.int s.2.2.1), none, none, none, none] [] s.2.2.2) (hk133 : ∀ s : Int64 × Int32 × gg_M, k133 s → G 133 [some (.ref 1), some (.int a1), some (.int a2), some (.int a3), some (.int a4), some (.int a5), some (.long a6), none, some (.int a8), some (.long s.1), none, some (.int s.2.1), none] [] s.2.2) : G 133 [some (.ref 1), some (.int a1), some (.int a2), some (.int a3), some (.int a4), some (.int a5), some (.long a6), none, some (.int a8), some (.long a9), none, some (.int a11), none] [] u := by
  unfold b_X11_bestNow_c133 at h
  refine gg_iload hG dX11_bestNow_133 rfl ?_
  refine gg_bipush (v := 7) hG dX11_bestNow_135 (by decide) ?_
  refine gg_ic_ge (tgt := 212) hG dX11_bestNow_137 (by decide) (fun c11 => ?_) (fun c11 => ?_)
  · replace h := h.1 c11
    refine gg_mk hG [true, true, true, true, true, true, true, false, true, true, false, false, false] rfl ?_
    exact m_X11_bestNow_c212 hG h hk90
  · replace h := h.2 c11
    refine gg_iload_n hG dX11_bestNow_140 rfl rfl ?_
    refine gg_iconst (v := 1) hG dX11_bestNow_141 (by decide) ?_
    refine gg_ic_le (tgt := 212) hG dX11_bestNow_142 (by decide) (fun c12 => ?_) (fun c12 => ?_)
    · replace h := h.1 c12
      refine gg_mk hG [true, true, true, true, true, true, true, false, true, true, false, false, false] rfl ?_
      exact m_X11_bestNow_c212 hG h hk90
    · replace h := h.2 c12
      refine gg_iload hG dX11_bestNow_145 rfl ?_
      refine gg_if_ne (tgt := 212) hG dX11_bestNow_147 (by decide) (fun c13 => ?_) (fun c13 => ?_)
      · replace h := h.1 c13
        refine gg_mk hG [true, true, true, true, true, true, true, false, true, true, false, false, false] rfl ?_
        exact m_X11_bestNow_c212 hG h hk90
      · replace h := h.2 c13
        refine gg_iload hG dX11_bestNow_150 rfl ?_
        refine gg_iconst (v := 2) hG dX11_bestNow_152 (by decide) ?_
        refine gg_ic_ne (tgt := 160) hG dX11_bestNow_153 (by decide) (fun c14 => ?_) (fun c14 => ?_)
        · replace h := h.1 c14
          refine gg_aload_n hG dX11_bestNow_160 rfl rfl ?_
          refine gg_iconst (v := 0) hG dX11_bestNow_161 (by decide) ?_
          refine gg_iload_n hG dX11_bestNow_162 rfl rfl ?_
          refine gg_iload hG dX11_bestNow_163 rfl ?_
          refine gg_xv (As := [.int 0, .int a3, .int a11]) (st := []) hG dX11_bestNow_165 ml_RX11_184 Y_X11_groupBy YV_X11_groupBy (by decide) ⟨_, rfl, rfl⟩ (mt_X11_groupBy h) rfl (by decide) (Nat.le_of_ble_eq_true rfl) rfl (gg_ki (fun v16 u15 h => ?_))
          exact m_X11_bestNow_c168 hG h hk90 hk133
        · replace h := h.2 c14
          refine gg_iconst (v := 0) hG dX11_bestNow_156 (by decide) ?_
          refine gg_goto (tgt := 168) hG dX11_bestNow_157 (by decide) ?_
          exact m_X11_bestNow_c168 hG h hk90 hk133
def w_X11_bestNow_c133 (a1 : Int32) (a2 : Int32) (a3 : Int32) (a4 : Int32) (a5 : Int32) (a6 : Int64) (a8 : Int32) (a9 : Int64) (a11 : Int32) (u : gg_M) (k90 : Int32 × Int64 × Int32 × gg_M → Prop) (Q : Int64 → gg_M → Prop) : Prop :=
  gg_loop (fun (s : Int64 × Int32 × gg_M) k133 => b_X11_bestNow_c133 a1 a2 a3 a4 a5 a6 a8 s.1 s.2.1 s.2.2 k90 k133 Q) (a9, a11, u)
set_option maxRecDepth 10000 in
theorem m_X11_bestNow_c133 {a1 : Int32} {a2 : Int32} {a3 : Int32} {a4 : Int32} {a5 : Int32} {a6 : Int64} {a8 : Int32} {a9 : Int64} {a11 : Int32} {u : gg_M} {k90 : Int32 × Int64 × Int32 × gg_M → Prop} {G : gg_T} {Q : Int64 → gg_M → Prop} (hG : gg_Cl none cX11_bestNow 13 RX11 (some .long) 7 (gg_eJ Q) G)  (h : w_X11_bestNow_c133 a1 a2 a3 a4 a5 a6 a8 a9 a11 u k90 Q)  (hk90 : ∀ s : Int32 × Int64 × Int32 × gg_M, k90 s → G 90 [some (.ref 1), some (.int a1), some (.int a2), some (.int a3), some (.int a4), some (.int s.1), some (.long s.2.1), none, some (.int s.2.2.1), none, none, none, none] [] s.2.2.2) : G 133 [some (.ref 1), some (.int a1), some (.int a2), some (.int a3), some (.int a4), some (.int a5), some (.long a6), none, some (.int a8), some (.long a9), none, some (.int a11), none] [] u :=
  gg_loop_use (P := fun s : Int64 × Int32 × gg_M => G 133 [some (.ref 1), some (.int a1), some (.int a2), some (.int a3), some (.int a4), some (.int a5), some (.long a6), none, some (.int a8), some (.long s.1), none, some (.int s.2.1), none] [] s.2.2) h (fun s rc hb hr => mb_X11_bestNow_c133 hG  hb  hk90 hr)
def w_X11_bestNow_c128 (a1 : Int32) (a2 : Int32) (a3 : Int32) (a4 : Int32) (a5 : Int32) (a6 : Int64) (a8 : Int32) (z0 : Int64) (u : gg_M) (k90 : Int32 × Int64 × Int32 × gg_M → Prop) (Q : Int64 → gg_M → Prop) : Prop :=
  w_X11_bestNow_c133 a1 a2 a3 a4 a5 a6 a8 z0 0 u k90 Q
set_option maxRecDepth 10000 in
theorem m_X11_bestNow_c128 {a1 : Int32} {a2 : Int32} {a3 : Int32} {a4 : Int32} {a5 : Int32} {a6 : Int64} {a8 : Int32} {z0 : Int64} {u : gg_M} {k90 : Int32 × Int64 × Int32 × gg_M → Prop} {G : gg_T} {Q : Int64 → gg_M → Prop} (hG : gg_Cl none cX11_bestNow 13 RX11 (some .long) 7 (gg_eJ Q) G)  (h : w_X11_bestNow_c128 a1 a2 a3 a4 a5 a6 a8 z0 u k90 Q)  (hk90 : ∀ s : Int32 × Int64 × Int32 × gg_M, k90 s → G 90 [some (.ref 1), some (.int a1), some (.int a2), some (.int a3), some (.int a4), some (.int s.1), some (.long s.2.1), none, some (.int s.2.2.1), none, none, none, none] [] s.2.2.2) : G 128 [some (.ref 1), some (.int a1), some (.int a2), some (.int a3), some (.int a4), some (.int a5), some (.long a6), none, some (.int a8), none, none, none, none] [.long z0] u := by
  unfold w_X11_bestNow_c128 at h
  refine gg_lstore (L1 := [some (.ref 1), some (.int a1), some (.int a2), some (.int a3), some (.int a4), some (.int a5), some (.long a6), none, some (.int a8), some (.long z0), none, none, none]) hG dX11_bestNow_128 (by decide) rfl ?_
  refine gg_iconst (v := 0) hG dX11_bestNow_130 (by decide) ?_
  refine gg_istore (L1 := [some (.ref 1), some (.int a1), some (.int a2), some (.int a3), some (.int a4), some (.int a5), some (.long a6), none, some (.int a8), some (.long z0), none, some (.int 0), none]) hG dX11_bestNow_131 (by decide) rfl ?_
  exact m_X11_bestNow_c133 hG h hk90
def b_X11_bestNow_c90 (a1 : Int32) (a2 : Int32) (a3 : Int32) (a4 : Int32) (a5 : Int32) (a6 : Int64) (a8 : Int32) (u : gg_M)  (k90 : Int32 × Int64 × Int32 × gg_M → Prop) (Q : Int64 → gg_M → Prop) : Prop :=
  (10 ≤ a8 →
   (¬ a2 = 2 →
    w_X11_lowest a6 (u.2 1 12) a2 u (fun v20 u19 =>
    w_X11_bestNow_c279 v20 u19 Q)) ∧
   (a2 = 2 →
    w_X11_bestNow_c279 a5.toInt64 u Q)) ∧
  (¬ 10 ≤ a8 →
   w_X11_goesOn 0 a3 a8 u (fun u21 =>
   (a4 = 0 →
    w_X11_groupBy 0 a3 2 u21 (fun v24 u23 =>
    w_X11_weightOf v24 u23 (fun v26 u25 =>
    w_X11_bestNow_c128 a1 a2 a3 a4 a5 a6 a8 v26 u25 k90 Q))) ∧
   (¬ a4 = 0 →
    w_X11_bestNow_c128 a1 a2 a3 a4 a5 a6 a8 (u21.2 1 12) u21 k90 Q)))
set_option maxRecDepth 10000 in
theorem mb_X11_bestNow_c90 {a1 : Int32} {a2 : Int32} {a3 : Int32} {a4 : Int32} {a5 : Int32} {a6 : Int64} {a8 : Int32} {u : gg_M}  {k90 : Int32 × Int64 × Int32 × gg_M → Prop} {G : gg_T} {Q : Int64 → gg_M → Prop} (hG : gg_Cl none cX11_bestNow 13 RX11 (some .long) 7 (gg_eJ Q) G)  (h : b_X11_bestNow_c90 a1 a2 a3 a4 a5 a6 a8 u k90 Q)   (hk90 : ∀ s : Int32 × Int64 × Int32 × gg_M, k90 s → G 90 [some (.ref 1), some (.int a1), some (.int a2), some (.int a3), some (.int a4), some (.int s.1), some (.long s.2.1), none, some (.int s.2.2.1), none, none, none, none] [] s.2.2.2) : G 90 [some (.ref 1), some (.int a1), some (.int a2), some (.int a3), some (.int a4), some (.int a5), some (.long a6), none, some (.int a8), none, none, none, none] [] u := by
  unfold b_X11_bestNow_c90 at h
  refine gg_iload hG dX11_bestNow_90 rfl ?_
  refine gg_bipush (v := 10) hG dX11_bestNow_92 (by decide) ?_
  refine gg_ic_ge (tgt := 258) hG dX11_bestNow_94 (by decide) (fun c17 => ?_) (fun c17 => ?_)
  · replace h := h.1 c17
    refine gg_iload_n hG dX11_bestNow_258 rfl rfl ?_
    refine gg_iconst (v := 2) hG dX11_bestNow_259 (by decide) ?_
    refine gg_ic_ne (tgt := 269) hG dX11_bestNow_260 (by decide) (fun c18 => ?_) (fun c18 => ?_)
    · replace h := h.1 c18
      refine gg_lload hG dX11_bestNow_269 rfl ?_
      refine gg_aload_n hG dX11_bestNow_271 rfl rfl ?_
      refine gg_get (v := .long (u.2 1 12)) hG dX11_bestNow_272 (by decide) rfl fl_RX11_135 rfl ?_
      refine gg_iload_n hG dX11_bestNow_275 rfl rfl ?_
      refine gg_xs (As := [.long a6, .long (u.2 1 12), .int a2]) (st := []) hG dX11_bestNow_276 ml_RX11_163 Y_X11_lowest YS_X11_lowest (mt_X11_lowest h) rfl (by decide) (Nat.le_of_ble_eq_true rfl) rfl (gg_kj (fun v20 u19 h => ?_))
      refine gg_mk hG [false, false, false, false, false, false, false, false, false, false, false, false, false] rfl ?_
      exact m_X11_bestNow_c279 hG h
    · replace h := h.2 c18
      refine gg_iload hG dX11_bestNow_263 rfl ?_
      refine gg_i2l hG dX11_bestNow_265 ?_
      refine gg_goto (tgt := 279) hG dX11_bestNow_266 (by decide) ?_
      refine gg_mk hG [false, false, false, false, false, false, false, false, false, false, false, false, false] rfl ?_
      exact m_X11_bestNow_c279 hG h
  · replace h := h.2 c17
    refine gg_aload_n hG dX11_bestNow_97 rfl rfl ?_
    refine gg_iconst (v := 0) hG dX11_bestNow_98 (by decide) ?_
    refine gg_iload_n hG dX11_bestNow_99 rfl rfl ?_
    refine gg_iload hG dX11_bestNow_100 rfl ?_
    refine gg_xv (As := [.int 0, .int a3, .int a8]) (st := []) hG dX11_bestNow_102 ml_RX11_181 Y_X11_goesOn YV_X11_goesOn (by decide) ⟨_, rfl, rfl⟩ (mt_X11_goesOn h) rfl (by decide) (Nat.le_of_ble_eq_true rfl) rfl (gg_kv (fun u21 h => ?_))
    refine gg_iload hG dX11_bestNow_105 rfl ?_
    refine gg_if_eq (tgt := 117) hG dX11_bestNow_107 (by decide) (fun c22 => ?_) (fun c22 => ?_)
    · replace h := h.1 c22
      refine gg_aload_n hG dX11_bestNow_117 rfl rfl ?_
      refine gg_aload_n hG dX11_bestNow_118 rfl rfl ?_
      refine gg_iconst (v := 0) hG dX11_bestNow_119 (by decide) ?_
      refine gg_iload_n hG dX11_bestNow_120 rfl rfl ?_
      refine gg_iconst (v := 2) hG dX11_bestNow_121 (by decide) ?_
      refine gg_xv (As := [.int 0, .int a3, .int 2]) (st := [.ref 1]) hG dX11_bestNow_122 ml_RX11_184 Y_X11_groupBy YV_X11_groupBy (by decide) ⟨_, rfl, rfl⟩ (mt_X11_groupBy h) rfl (by decide) (Nat.le_of_ble_eq_true rfl) rfl (gg_ki (fun v24 u23 h => ?_))
      refine gg_xv (As := [.int v24]) (st := []) hG dX11_bestNow_125 ml_RX11_187 Y_X11_weightOf YV_X11_weightOf (by decide) ⟨_, rfl, rfl⟩ (mt_X11_weightOf h) rfl (by decide) (Nat.le_of_ble_eq_true rfl) rfl (gg_kj (fun v26 u25 h => ?_))
      exact m_X11_bestNow_c128 hG h hk90
    · replace h := h.2 c22
      refine gg_aload_n hG dX11_bestNow_110 rfl rfl ?_
      refine gg_get (v := .long (u21.2 1 12)) hG dX11_bestNow_111 (by decide) rfl fl_RX11_135 rfl ?_
      refine gg_goto (tgt := 128) hG dX11_bestNow_114 (by decide) ?_
      exact m_X11_bestNow_c128 hG h hk90
def w_X11_bestNow_c90 (a1 : Int32) (a2 : Int32) (a3 : Int32) (a4 : Int32) (a5 : Int32) (a6 : Int64) (a8 : Int32) (u : gg_M)  (Q : Int64 → gg_M → Prop) : Prop :=
  gg_loop (fun (s : Int32 × Int64 × Int32 × gg_M) k90 => b_X11_bestNow_c90 a1 a2 a3 a4 s.1 s.2.1 s.2.2.1 s.2.2.2  k90 Q) (a5, a6, a8, u)
set_option maxRecDepth 10000 in
theorem m_X11_bestNow_c90 {a1 : Int32} {a2 : Int32} {a3 : Int32} {a4 : Int32} {a5 : Int32} {a6 : Int64} {a8 : Int32} {u : gg_M}  {G : gg_T} {Q : Int64 → gg_M → Prop} (hG : gg_Cl none cX11_bestNow 13 RX11 (some .long) 7 (gg_eJ Q) G)  (h : w_X11_bestNow_c90 a1 a2 a3 a4 a5 a6 a8 u  Q)   : G 90 [some (.ref 1), some (.int a1), some (.int a2), some (.int a3), some (.int a4), some (.int a5), some (.long a6), none, some (.int a8), none, none, none, none] [] u :=
  gg_loop_use (P := fun s : Int32 × Int64 × Int32 × gg_M => G 90 [some (.ref 1), some (.int a1), some (.int a2), some (.int a3), some (.int a4), some (.int s.1), some (.long s.2.1), none, some (.int s.2.2.1), none, none, none, none] [] s.2.2.2) h (fun s rc hb hr => mb_X11_bestNow_c90 hG  hb   hr)
def w_X11_bestNow_c73 (a1 : Int32) (a2 : Int32) (a3 : Int32) (a5 : Int32) (z0 : Int32) (u : gg_M) (k30 : Int32 × Int32 × gg_M → Prop) (Q : Int64 → gg_M → Prop) : Prop :=
  k30 (z0, (a5 + 1), u)
set_option maxRecDepth 10000 in
theorem m_X11_bestNow_c73 {a1 : Int32} {a2 : Int32} {a3 : Int32} {a5 : Int32} {z0 : Int32} {u : gg_M} {k30 : Int32 × Int32 × gg_M → Prop} {G : gg_T} {Q : Int64 → gg_M → Prop} (hG : gg_Cl none cX11_bestNow 13 RX11 (some .long) 7 (gg_eJ Q) G)  (h : w_X11_bestNow_c73 a1 a2 a3 a5 z0 u k30 Q)  (hk30 : ∀ s : Int32 × Int32 × gg_M, k30 s → G 30 [some (.ref 1), some (.int a1), some (.int a2), some (.int a3), some (.int s.1), some (.int s.2.1), none, none, none, none, none, none, none] [] s.2.2) : G 73 [some (.ref 1), some (.int a1), some (.int a2), some (.int a3), none, some (.int a5), none, none, none, none, none, none, none] [.int z0] u := by
  unfold w_X11_bestNow_c73 at h
  refine gg_istore (L1 := [some (.ref 1), some (.int a1), some (.int a2), some (.int a3), some (.int z0), some (.int a5), none, none, none, none, none, none, none]) hG dX11_bestNow_73 (by decide) rfl ?_
  refine gg_iinc (v := (a5 + 1)) (L1 := [some (.ref 1), some (.int a1), some (.int a2), some (.int a3), some (.int z0), some (.int (a5 + 1)), none, none, none, none, none, none, none]) hG dX11_bestNow_75 rfl rfl (by decide) rfl ?_
  refine gg_goto (tgt := 30) hG dX11_bestNow_78 (by decide) ?_
  exact hk30 _ h
def w_X11_bestNow_c72 (a1 : Int32) (a2 : Int32) (a3 : Int32) (a5 : Int32) (u : gg_M) (k30 : Int32 × Int32 × gg_M → Prop) (Q : Int64 → gg_M → Prop) : Prop :=
  w_X11_bestNow_c73 a1 a2 a3 a5 0 u k30 Q
set_option maxRecDepth 10000 in
theorem m_X11_bestNow_c72 {a1 : Int32} {a2 : Int32} {a3 : Int32} {a5 : Int32} {u : gg_M} {k30 : Int32 × Int32 × gg_M → Prop} {G : gg_T} {Q : Int64 → gg_M → Prop} (hG : gg_Cl none cX11_bestNow 13 RX11 (some .long) 7 (gg_eJ Q) G)  (h : w_X11_bestNow_c72 a1 a2 a3 a5 u k30 Q)  (hk30 : ∀ s : Int32 × Int32 × gg_M, k30 s → G 30 [some (.ref 1), some (.int a1), some (.int a2), some (.int a3), some (.int s.1), some (.int s.2.1), none, none, none, none, none, none, none] [] s.2.2) : G 72 [some (.ref 1), some (.int a1), some (.int a2), some (.int a3), none, some (.int a5), none, none, none, none, none, none, none] [] u := by
  unfold w_X11_bestNow_c72 at h
  refine gg_iconst (v := 0) hG dX11_bestNow_72 (by decide) ?_
  exact m_X11_bestNow_c73 hG h hk30
def w_X11_bestNow_c68 (a1 : Int32) (a2 : Int32) (a3 : Int32) (a5 : Int32) (u : gg_M) (k30 : Int32 × Int32 × gg_M → Prop) (Q : Int64 → gg_M → Prop) : Prop :=
  w_X11_bestNow_c73 a1 a2 a3 a5 1 u k30 Q
set_option maxRecDepth 10000 in
theorem m_X11_bestNow_c68 {a1 : Int32} {a2 : Int32} {a3 : Int32} {a5 : Int32} {u : gg_M} {k30 : Int32 × Int32 × gg_M → Prop} {G : gg_T} {Q : Int64 → gg_M → Prop} (hG : gg_Cl none cX11_bestNow 13 RX11 (some .long) 7 (gg_eJ Q) G)  (h : w_X11_bestNow_c68 a1 a2 a3 a5 u k30 Q)  (hk30 : ∀ s : Int32 × Int32 × gg_M, k30 s → G 30 [some (.ref 1), some (.int a1), some (.int a2), some (.int a3), some (.int s.1), some (.int s.2.1), none, none, none, none, none, none, none] [] s.2.2) : G 68 [some (.ref 1), some (.int a1), some (.int a2), some (.int a3), none, some (.int a5), none, none, none, none, none, none, none] [] u := by
  unfold w_X11_bestNow_c68 at h
  refine gg_iconst (v := 1) hG dX11_bestNow_68 (by decide) ?_
  refine gg_goto (tgt := 73) hG dX11_bestNow_69 (by decide) ?_
  exact m_X11_bestNow_c73 hG h hk30
def b_X11_bestNow_c30 (a1 : Int32) (a2 : Int32) (a3 : Int32) (a4 : Int32) (a5 : Int32) (u : gg_M)  (k30 : Int32 × Int32 × gg_M → Prop) (Q : Int64 → gg_M → Prop) : Prop :=
  (32 ≤ a5 →
   w_X11_bestNow_c90 a1 a2 a3 a4 (-1) 0 0 u Q) ∧
  (¬ 32 ≤ a5 →
   (a4 = 0 →
    w_X11_bestNow_c72 a1 a2 a3 a5 u k30 Q) ∧
   (¬ a4 = 0 →
    w_X11_isIn a3 a5 u (fun v30 u29 =>
    (v30 = 0 →
     w_X11_bestNow_c68 a1 a2 a3 a5 u29 k30 Q) ∧
    (¬ v30 = 0 →
     vp_in (((8 : Int32) * a5) + 7) 1024 ∧
     (¬ (u29.1 51 ((((8 : Int32) * a5) + 7).toNatClampNeg)) = 1 →
      w_X11_bestNow_c72 a1 a2 a3 a5 u29 k30 Q) ∧
     ((u29.1 51 ((((8 : Int32) * a5) + 7).toNatClampNeg)) = 1 →
      w_X11_bestNow_c68 a1 a2 a3 a5 u29 k30 Q)))))
set_option maxRecDepth 10000 in
theorem mb_X11_bestNow_c30 {a1 : Int32} {a2 : Int32} {a3 : Int32} {a4 : Int32} {a5 : Int32} {u : gg_M}  {k30 : Int32 × Int32 × gg_M → Prop} {G : gg_T} {Q : Int64 → gg_M → Prop} (hG : gg_Cl none cX11_bestNow 13 RX11 (some .long) 7 (gg_eJ Q) G)  (h : b_X11_bestNow_c30 a1 a2 a3 a4 a5 u k30 Q)   (hk30 : ∀ s : Int32 × Int32 × gg_M, k30 s → G 30 [some (.ref 1), some (.int a1), some (.int a2), some (.int a3), some (.int s.1), some (.int s.2.1), none, none, none, none, none, none, none] [] s.2.2) : G 30 [some (.ref 1), some (.int a1), some (.int a2), some (.int a3), some (.int a4), some (.int a5), none, none, none, none, none, none, none] [] u := by
  unfold b_X11_bestNow_c30 at h
  refine gg_iload hG dX11_bestNow_30 rfl ?_
  refine gg_bipush (v := 32) hG dX11_bestNow_32 (by decide) ?_
  refine gg_ic_ge (tgt := 81) hG dX11_bestNow_34 (by decide) (fun c27 => ?_) (fun c27 => ?_)
  · replace h := h.1 c27
    refine gg_iconst (v := (-1)) hG dX11_bestNow_81 (by decide) ?_
    refine gg_istore (L1 := [some (.ref 1), some (.int a1), some (.int a2), some (.int a3), some (.int a4), some (.int (-1)), none, none, none, none, none, none, none]) hG dX11_bestNow_82 (by decide) rfl ?_
    refine gg_lconst (v := 0) hG dX11_bestNow_84 (by decide) ?_
    refine gg_lstore (L1 := [some (.ref 1), some (.int a1), some (.int a2), some (.int a3), some (.int a4), some (.int (-1)), some (.long 0), none, none, none, none, none, none]) hG dX11_bestNow_85 (by decide) rfl ?_
    refine gg_iconst (v := 0) hG dX11_bestNow_87 (by decide) ?_
    refine gg_istore (L1 := [some (.ref 1), some (.int a1), some (.int a2), some (.int a3), some (.int a4), some (.int (-1)), some (.long 0), none, some (.int 0), none, none, none, none]) hG dX11_bestNow_88 (by decide) rfl ?_
    exact m_X11_bestNow_c90 hG h
  · replace h := h.2 c27
    refine gg_iload hG dX11_bestNow_37 rfl ?_
    refine gg_if_eq (tgt := 72) hG dX11_bestNow_39 (by decide) (fun c28 => ?_) (fun c28 => ?_)
    · replace h := h.1 c28
      refine gg_mk hG [true, true, true, true, false, true, false, false, false, false, false, false, false] rfl ?_
      exact m_X11_bestNow_c72 hG h hk30
    · replace h := h.2 c28
      refine gg_iload_n hG dX11_bestNow_42 rfl rfl ?_
      refine gg_iload hG dX11_bestNow_43 rfl ?_
      refine gg_xs (As := [.int a3, .int a5]) (st := []) hG dX11_bestNow_45 ml_RX11_119 Y_X11_isIn YS_X11_isIn (mt_X11_isIn h) rfl (by decide) (Nat.le_of_ble_eq_true rfl) rfl (gg_ki (fun v30 u29 h => ?_))
      refine gg_if_eq (tgt := 68) hG dX11_bestNow_48 (by decide) (fun c31 => ?_) (fun c31 => ?_)
      · replace h := h.1 c31
        refine gg_mk hG [true, true, true, true, false, true, false, false, false, false, false, false, false] rfl ?_
        exact m_X11_bestNow_c68 hG h hk30
      · replace h := h.2 c31
        refine gg_aload_n hG dX11_bestNow_51 rfl rfl ?_
        refine gg_get (v := .ref 51) hG dX11_bestNow_52 (by decide) rfl fl_RX11_22 rfl ?_
        refine gg_bipush (v := 8) hG dX11_bestNow_55 (by decide) ?_
        refine gg_iload hG dX11_bestNow_57 rfl ?_
        refine gg_imul hG dX11_bestNow_59 ?_
        refine gg_bipush (v := 7) hG dX11_bestNow_60 (by decide) ?_
        refine gg_iadd hG dX11_bestNow_62 ?_
        obtain ⟨h32, h⟩ := h
        refine gg_iald (j := (((8 : Int32) * a5) + 7).toNatClampNeg) hG dX11_bestNow_63 (by decide) rfl h32 rfl ?_
        refine gg_iconst (v := 1) hG dX11_bestNow_64 (by decide) ?_
        refine gg_ic_ne (tgt := 72) hG dX11_bestNow_65 (by decide) (fun c33 => ?_) (fun c33 => ?_)
        · replace h := h.1 c33
          refine gg_mk hG [true, true, true, true, false, true, false, false, false, false, false, false, false] rfl ?_
          exact m_X11_bestNow_c72 hG h hk30
        · replace h := h.2 c33
          refine gg_mk hG [true, true, true, true, false, true, false, false, false, false, false, false, false] rfl ?_
          exact m_X11_bestNow_c68 hG h hk30
def w_X11_bestNow_c30 (a1 : Int32) (a2 : Int32) (a3 : Int32) (a4 : Int32) (a5 : Int32) (u : gg_M)  (Q : Int64 → gg_M → Prop) : Prop :=
  gg_loop (fun (s : Int32 × Int32 × gg_M) k30 => b_X11_bestNow_c30 a1 a2 a3 s.1 s.2.1 s.2.2  k30 Q) (a4, a5, u)
set_option maxRecDepth 10000 in
theorem m_X11_bestNow_c30 {a1 : Int32} {a2 : Int32} {a3 : Int32} {a4 : Int32} {a5 : Int32} {u : gg_M}  {G : gg_T} {Q : Int64 → gg_M → Prop} (hG : gg_Cl none cX11_bestNow 13 RX11 (some .long) 7 (gg_eJ Q) G)  (h : w_X11_bestNow_c30 a1 a2 a3 a4 a5 u  Q)   : G 30 [some (.ref 1), some (.int a1), some (.int a2), some (.int a3), some (.int a4), some (.int a5), none, none, none, none, none, none, none] [] u :=
  gg_loop_use (P := fun s : Int32 × Int32 × gg_M => G 30 [some (.ref 1), some (.int a1), some (.int a2), some (.int a3), some (.int s.1), some (.int s.2.1), none, none, none, none, none, none, none] [] s.2.2) h (fun s rc hb hr => mb_X11_bestNow_c30 hG  hb   hr)
def w_X11_bestNow (a1 : Int32) (a2 : Int32) (u : gg_M)  (Q : Int64 → gg_M → Prop) : Prop :=
  w_X11_lays u (fun u34 =>
  (¬ (lg_cmp (u34.2 1 12) 0) = 0 →
   w_X11_those u34 (fun v37 u36 =>
   w_X11_bestNow_c30 a1 a2 v37 1 0 u36 Q)) ∧
  ((lg_cmp (u34.2 1 12) 0) = 0 →
   w_X11_no (-3) u34 (fun v39 u38 =>
   Q v39 u38)))
set_option maxRecDepth 10000 in
theorem m_X11_bestNow {a1 : Int32} {a2 : Int32} {u : gg_M}  {G : gg_T} {Q : Int64 → gg_M → Prop} (hG : gg_Cl none cX11_bestNow 13 RX11 (some .long) 7 (gg_eJ Q) G)  (h : w_X11_bestNow a1 a2 u  Q)   : G 0 [some (.ref 1), some (.int a1), some (.int a2), none, none, none, none, none, none, none, none, none, none] [] u := by
  unfold w_X11_bestNow at h
  refine gg_aload_n hG dX11_bestNow_0 rfl rfl ?_
  refine gg_xv (As := []) (st := []) hG dX11_bestNow_1 ml_RX11_151 Y_X11_lays YV_X11_lays (by decide) ⟨_, rfl, rfl⟩ (mt_X11_lays h) rfl (by decide) (Nat.le_of_ble_eq_true rfl) rfl (gg_kv (fun u34 h => ?_))
  refine gg_aload_n hG dX11_bestNow_4 rfl rfl ?_
  refine gg_get (v := .long (u34.2 1 12)) hG dX11_bestNow_5 (by decide) rfl fl_RX11_135 rfl ?_
  refine gg_lconst (v := 0) hG dX11_bestNow_8 (by decide) ?_
  refine gg_lcmp hG dX11_bestNow_9 ?_
  refine gg_if_ne (tgt := 19) hG dX11_bestNow_10 (by decide) (fun c35 => ?_) (fun c35 => ?_)
  · replace h := h.1 c35
    refine gg_aload_n hG dX11_bestNow_19 rfl rfl ?_
    refine gg_xv (As := []) (st := []) hG dX11_bestNow_20 ml_RX11_178 Y_X11_those YV_X11_those (by decide) ⟨_, rfl, rfl⟩ (mt_X11_those h) rfl (by decide) (Nat.le_of_ble_eq_true rfl) rfl (gg_ki (fun v37 u36 h => ?_))
    refine gg_istore_n (L1 := [some (.ref 1), some (.int a1), some (.int a2), some (.int v37), none, none, none, none, none, none, none, none, none]) hG dX11_bestNow_23 rfl (by decide) rfl ?_
    refine gg_iconst (v := 1) hG dX11_bestNow_24 (by decide) ?_
    refine gg_istore (L1 := [some (.ref 1), some (.int a1), some (.int a2), some (.int v37), some (.int 1), none, none, none, none, none, none, none, none]) hG dX11_bestNow_25 (by decide) rfl ?_
    refine gg_iconst (v := 0) hG dX11_bestNow_27 (by decide) ?_
    refine gg_istore (L1 := [some (.ref 1), some (.int a1), some (.int a2), some (.int v37), some (.int 1), some (.int 0), none, none, none, none, none, none, none]) hG dX11_bestNow_28 (by decide) rfl ?_
    exact m_X11_bestNow_c30 hG h
  · replace h := h.2 c35
    refine gg_bipush (v := (-3)) hG dX11_bestNow_13 (by decide) ?_
    refine gg_xs (As := [.int (-3)]) (st := []) hG dX11_bestNow_15 ml_RX11_160 Y_X11_no YS_X11_no (mt_X11_no h) rfl (by decide) (Nat.le_of_ble_eq_true rfl) rfl (gg_kj (fun v39 u38 h => ?_))
    exact gg_lret hG dX11_bestNow_18 rfl ⟨_, rfl, h⟩
theorem mt_X11_bestNow {a1 : Int32} {a2 : Int32}  {u : gg_M} {Q : Int64 → gg_M → Prop} (h : w_X11_bestNow a1 a2 u Q) : gg_Mt 7 yX11_bestNow cX11_bestNow 13 (some .long) [.ref 1, .int a1, .int a2] u (gg_eJ Q) :=
  gg_intro (own := RX11) (by decide +kernel) rfl rfl (Nat.le_of_ble_eq_true rfl) (fun G hG => m_X11_bestNow hG  h)
/-! X11_best -/
def w_X11_best_c32 (z0 : Int64) (u : gg_M)  (Q : Int64 → gg_M → Prop) : Prop :=
  Q z0 u
set_option maxRecDepth 10000 in
theorem m_X11_best_c32 {z0 : Int64} {u : gg_M}  {G : gg_T} {Q : Int64 → gg_M → Prop} (hG : gg_Cl none cX11_best 3 RX11 (some .long) 8 (gg_eJ Q) G)  (h : w_X11_best_c32 z0 u  Q)   : G 32 [none, none, none] [.long z0] u := by
  unfold w_X11_best_c32 at h
  exact gg_lret hG dX11_best_32 rfl ⟨_, rfl, h⟩
def w_X11_best_c27  (u : gg_M)  (Q : Int64 → gg_M → Prop) : Prop :=
  w_X11_no (-2) u (fun v2 u1 =>
  w_X11_best_c32 v2 u1 Q)
set_option maxRecDepth 10000 in
theorem m_X11_best_c27  {u : gg_M}  {G : gg_T} {Q : Int64 → gg_M → Prop} (hG : gg_Cl none cX11_best 3 RX11 (some .long) 8 (gg_eJ Q) G)  (h : w_X11_best_c27  u  Q)   : G 27 [none, none, none] [] u := by
  unfold w_X11_best_c27 at h
  refine gg_bipush (v := (-2)) hG dX11_best_27 (by decide) ?_
  refine gg_xs (As := [.int (-2)]) (st := []) hG dX11_best_29 ml_RX11_160 Y_X11_no YS_X11_no (mt_X11_no h) rfl (by decide) (Nat.le_of_ble_eq_true rfl) rfl (gg_kj (fun v2 u1 h => ?_))
  exact m_X11_best_c32 hG h
def w_X11_best (a1 : Int32) (a2 : Int32) (u : gg_M)  (Q : Int64 → gg_M → Prop) : Prop :=
  w_X11_in a1 1 3 u (fun v4 u3 =>
  (v4 = 0 →
   w_X11_best_c27 u3 Q) ∧
  (¬ v4 = 0 →
   w_X11_in a2 0 2 u3 (fun v7 u6 =>
   (v7 = 0 →
    w_X11_best_c27 u6 Q) ∧
   (¬ v7 = 0 →
    w_X11_bestNow a1 a2 u6 (fun v10 u9 =>
    w_X11_best_c32 v10 u9 Q)))))
set_option maxRecDepth 10000 in
theorem m_X11_best {a1 : Int32} {a2 : Int32} {u : gg_M}  {G : gg_T} {Q : Int64 → gg_M → Prop} (hG : gg_Cl none cX11_best 3 RX11 (some .long) 8 (gg_eJ Q) G)  (h : w_X11_best a1 a2 u  Q)   : G 0 [some (.ref 1), some (.int a1), some (.int a2)] [] u := by
  unfold w_X11_best at h
  refine gg_iload_n hG dX11_best_0 rfl rfl ?_
  refine gg_iconst (v := 1) hG dX11_best_1 (by decide) ?_
  refine gg_iconst (v := 3) hG dX11_best_2 (by decide) ?_
  refine gg_xs (As := [.int a1, .int 1, .int 3]) (st := []) hG dX11_best_3 ml_RX11_68 Y_X11_in YS_X11_in (mt_X11_in h) rfl (by decide) (Nat.le_of_ble_eq_true rfl) rfl (gg_ki (fun v4 u3 h => ?_))
  refine gg_if_eq (tgt := 27) hG dX11_best_6 (by decide) (fun c5 => ?_) (fun c5 => ?_)
  · replace h := h.1 c5
    refine gg_mk hG [false, false, false] rfl ?_
    exact m_X11_best_c27 hG h
  · replace h := h.2 c5
    refine gg_iload_n hG dX11_best_9 rfl rfl ?_
    refine gg_iconst (v := 0) hG dX11_best_10 (by decide) ?_
    refine gg_iconst (v := 2) hG dX11_best_11 (by decide) ?_
    refine gg_xs (As := [.int a2, .int 0, .int 2]) (st := []) hG dX11_best_12 ml_RX11_68 Y_X11_in YS_X11_in (mt_X11_in h) rfl (by decide) (Nat.le_of_ble_eq_true rfl) rfl (gg_ki (fun v7 u6 h => ?_))
    refine gg_if_eq (tgt := 27) hG dX11_best_15 (by decide) (fun c8 => ?_) (fun c8 => ?_)
    · replace h := h.1 c8
      refine gg_mk hG [false, false, false] rfl ?_
      exact m_X11_best_c27 hG h
    · replace h := h.2 c8
      refine gg_aload_n hG dX11_best_18 rfl rfl ?_
      refine gg_iload_n hG dX11_best_19 rfl rfl ?_
      refine gg_iload_n hG dX11_best_20 rfl rfl ?_
      refine gg_xv (As := [.int a1, .int a2]) (st := []) hG dX11_best_21 ml_RX11_203 Y_X11_bestNow YV_X11_bestNow (by decide) ⟨_, rfl, rfl⟩ (mt_X11_bestNow h) rfl (by decide) (Nat.le_of_ble_eq_true rfl) rfl (gg_kj (fun v10 u9 h => ?_))
      refine gg_goto (tgt := 32) hG dX11_best_24 (by decide) ?_
      refine gg_mk hG [false, false, false] rfl ?_
      exact m_X11_best_c32 hG h
theorem mt_X11_best {a1 : Int32} {a2 : Int32}  {u : gg_M} {Q : Int64 → gg_M → Prop} (h : w_X11_best a1 a2 u Q) : gg_Mt 8 yX11_best cX11_best 3 (some .long) [.ref 1, .int a1, .int a2] u (gg_eJ Q) :=
  gg_intro (own := RX11) (by decide +kernel) rfl rfl (Nat.le_of_ble_eq_true rfl) (fun G hG => m_X11_best hG  h)
/-! X11_runsBy -/
def w_X11_runsBy_c49 (a1 : Int32) (a2 : Int32) (a3 : Int32) (z1 : Int32) (z2 : Int32) (u : gg_M) (k13 : Int32 × gg_M → Prop) (Q : Int32 → gg_M → Prop) : Prop :=
  ∀ u1 : gg_M, u1 = gg_wI u 1 14 (z1 + z2) →
  (¬ a3 = 2 →
   k13 ((a2 + 1), u1)) ∧
  (a3 = 2 →
   Q 1 u1)
set_option maxRecDepth 10000 in
theorem m_X11_runsBy_c49 {a1 : Int32} {a2 : Int32} {a3 : Int32} {z1 : Int32} {z2 : Int32} {u : gg_M} {k13 : Int32 × gg_M → Prop} {G : gg_T} {Q : Int32 → gg_M → Prop} (hG : gg_Cl none cX11_runsBy 4 RX11 (some .boolean) 4 (gg_eI Q) G)  (h : w_X11_runsBy_c49 a1 a2 a3 z1 z2 u k13 Q)  (hk13 : ∀ s : Int32 × gg_M, k13 s → G 13 [some (.ref 1), some (.int a1), some (.int s.1), none] [] s.2) : G 49 [some (.ref 1), some (.int a1), some (.int a2), some (.int a3)] [.int z2, .int z1, .ref 1] u := by
  unfold w_X11_runsBy_c49 at h
  refine gg_iadd hG dX11_runsBy_49 ?_
  refine gg_putI hG dX11_runsBy_50 (by decide) rfl fp_RX11_206 rfl rfl rfl ?_
  refine gg_nu (fun u1 eu1 => ?_)
  replace h := h u1 eu1
  refine gg_iload_n hG dX11_runsBy_53 rfl rfl ?_
  refine gg_iconst (v := 2) hG dX11_runsBy_54 (by decide) ?_
  refine gg_ic_ne (tgt := 60) hG dX11_runsBy_55 (by decide) (fun c2 => ?_) (fun c2 => ?_)
  · replace h := h.1 c2
    refine gg_iinc (v := (a2 + 1)) (L1 := [some (.ref 1), some (.int a1), some (.int (a2 + 1)), some (.int a3)]) hG dX11_runsBy_60 rfl rfl (by decide) rfl ?_
    refine gg_goto (tgt := 13) hG dX11_runsBy_63 (by decide) ?_
    refine gg_mk hG [true, true, true, false] rfl ?_
    exact hk13 _ h
  · replace h := h.2 c2
    refine gg_iconst (v := 1) hG dX11_runsBy_58 (by decide) ?_
    exact gg_iret hG dX11_runsBy_59 rfl (gg_nb (Or.inr rfl)).1 ⟨_, rfl, h⟩
def b_X11_runsBy_c13 (a1 : Int32) (a2 : Int32) (u : gg_M)  (k13 : Int32 × gg_M → Prop) (Q : Int32 → gg_M → Prop) : Prop :=
  ((u.1 1 4) ≤ a2 →
   Q 0 u) ∧
  (¬ (u.1 1 4) ≤ a2 →
   vp_in a2 200 ∧
   w_X11_does 1 a1 (u.1 50 a2.toNatClampNeg) u (fun v6 u5 =>
   (¬ v6 = 4 →
    w_X11_runsBy_c49 a1 a2 v6 (u5.1 1 14) 1 u5 k13 Q) ∧
   (v6 = 4 →
    w_X11_runsBy_c49 a1 a2 v6 (u5.1 1 14) 0 u5 k13 Q)))
set_option maxRecDepth 10000 in
theorem mb_X11_runsBy_c13 {a1 : Int32} {a2 : Int32} {u : gg_M}  {k13 : Int32 × gg_M → Prop} {G : gg_T} {Q : Int32 → gg_M → Prop} (hG : gg_Cl none cX11_runsBy 4 RX11 (some .boolean) 4 (gg_eI Q) G)  (h : b_X11_runsBy_c13 a1 a2 u k13 Q)   (hk13 : ∀ s : Int32 × gg_M, k13 s → G 13 [some (.ref 1), some (.int a1), some (.int s.1), none] [] s.2) : G 13 [some (.ref 1), some (.int a1), some (.int a2), none] [] u := by
  unfold b_X11_runsBy_c13 at h
  refine gg_iload_n hG dX11_runsBy_13 rfl rfl ?_
  refine gg_aload_n hG dX11_runsBy_14 rfl rfl ?_
  refine gg_get (v := .int (u.1 1 4)) hG dX11_runsBy_15 (by decide) rfl fl_RX11_101 rfl ?_
  refine gg_ic_ge (tgt := 66) hG dX11_runsBy_18 (by decide) (fun c3 => ?_) (fun c3 => ?_)
  · replace h := h.1 c3
    refine gg_iconst (v := 0) hG dX11_runsBy_66 (by decide) ?_
    exact gg_iret hG dX11_runsBy_67 rfl (gg_nb (Or.inl rfl)).1 ⟨_, rfl, h⟩
  · replace h := h.2 c3
    refine gg_aload_n hG dX11_runsBy_21 rfl rfl ?_
    refine gg_iconst (v := 1) hG dX11_runsBy_22 (by decide) ?_
    refine gg_iload_n hG dX11_runsBy_23 rfl rfl ?_
    refine gg_aload_n hG dX11_runsBy_24 rfl rfl ?_
    refine gg_get (v := .ref 50) hG dX11_runsBy_25 (by decide) rfl fl_RX11_19 rfl ?_
    refine gg_iload_n hG dX11_runsBy_28 rfl rfl ?_
    obtain ⟨h4, h⟩ := h
    refine gg_iald (j := a2.toNatClampNeg) hG dX11_runsBy_29 (by decide) rfl h4 rfl ?_
    refine gg_xv (As := [.int 1, .int a1, .int (u.1 50 a2.toNatClampNeg)]) (st := []) hG dX11_runsBy_30 ml_RX11_143 Y_X11_does YV_X11_does (by decide) ⟨_, rfl, rfl⟩ (mt_X11_does h) rfl (by decide) (Nat.le_of_ble_eq_true rfl) rfl (gg_ki (fun v6 u5 h => ?_))
    refine gg_istore_n (L1 := [some (.ref 1), some (.int a1), some (.int a2), some (.int v6)]) hG dX11_runsBy_33 rfl (by decide) rfl ?_
    refine gg_aload_n hG dX11_runsBy_34 rfl rfl ?_
    refine gg_dup hG dX11_runsBy_35 rfl ?_
    refine gg_get (v := .int (u5.1 1 14)) hG dX11_runsBy_36 (by decide) rfl fl_RX11_206 rfl ?_
    refine gg_iload_n hG dX11_runsBy_39 rfl rfl ?_
    refine gg_iconst (v := 4) hG dX11_runsBy_40 (by decide) ?_
    refine gg_ic_ne (tgt := 48) hG dX11_runsBy_41 (by decide) (fun c7 => ?_) (fun c7 => ?_)
    · replace h := h.1 c7
      refine gg_iconst (v := 1) hG dX11_runsBy_48 (by decide) ?_
      exact m_X11_runsBy_c49 hG h hk13
    · replace h := h.2 c7
      refine gg_iconst (v := 0) hG dX11_runsBy_44 (by decide) ?_
      refine gg_goto (tgt := 49) hG dX11_runsBy_45 (by decide) ?_
      exact m_X11_runsBy_c49 hG h hk13
def w_X11_runsBy_c13 (a1 : Int32) (a2 : Int32) (u : gg_M)  (Q : Int32 → gg_M → Prop) : Prop :=
  gg_loop (fun (s : Int32 × gg_M) k13 => b_X11_runsBy_c13 a1 s.1 s.2  k13 Q) (a2, u)
set_option maxRecDepth 10000 in
theorem m_X11_runsBy_c13 {a1 : Int32} {a2 : Int32} {u : gg_M}  {G : gg_T} {Q : Int32 → gg_M → Prop} (hG : gg_Cl none cX11_runsBy 4 RX11 (some .boolean) 4 (gg_eI Q) G)  (h : w_X11_runsBy_c13 a1 a2 u  Q)   : G 13 [some (.ref 1), some (.int a1), some (.int a2), none] [] u :=
  gg_loop_use (P := fun s : Int32 × gg_M => G 13 [some (.ref 1), some (.int a1), some (.int s.1), none] [] s.2) h (fun s rc hb hr => mb_X11_runsBy_c13 hG  hb   hr)
def w_X11_runsBy (a1 : Int32) (u : gg_M)  (Q : Int32 → gg_M → Prop) : Prop :=
  w_X11_begins 1 a1 u (fun u8 =>
  ∀ u9 : gg_M, u9 = gg_wI u8 1 14 0 →
  w_X11_runsBy_c13 a1 0 u9 Q)
set_option maxRecDepth 10000 in
theorem m_X11_runsBy {a1 : Int32} {u : gg_M}  {G : gg_T} {Q : Int32 → gg_M → Prop} (hG : gg_Cl none cX11_runsBy 4 RX11 (some .boolean) 4 (gg_eI Q) G)  (h : w_X11_runsBy a1 u  Q)   : G 0 [some (.ref 1), some (.int a1), none, none] [] u := by
  unfold w_X11_runsBy at h
  refine gg_aload_n hG dX11_runsBy_0 rfl rfl ?_
  refine gg_iconst (v := 1) hG dX11_runsBy_1 (by decide) ?_
  refine gg_iload_n hG dX11_runsBy_2 rfl rfl ?_
  refine gg_xv (As := [.int 1, .int a1]) (st := []) hG dX11_runsBy_3 ml_RX11_139 Y_X11_begins YV_X11_begins (by decide) ⟨_, rfl, rfl⟩ (mt_X11_begins h) rfl (by decide) (Nat.le_of_ble_eq_true rfl) rfl (gg_kv (fun u8 h => ?_))
  refine gg_aload_n hG dX11_runsBy_6 rfl rfl ?_
  refine gg_iconst (v := 0) hG dX11_runsBy_7 (by decide) ?_
  refine gg_putI hG dX11_runsBy_8 (by decide) rfl fp_RX11_206 rfl rfl rfl ?_
  refine gg_nu (fun u9 eu9 => ?_)
  replace h := h u9 eu9
  refine gg_iconst (v := 0) hG dX11_runsBy_11 (by decide) ?_
  refine gg_istore_n (L1 := [some (.ref 1), some (.int a1), some (.int 0), none]) hG dX11_runsBy_12 rfl (by decide) rfl ?_
  exact m_X11_runsBy_c13 hG h
theorem mt_X11_runsBy {a1 : Int32}  {u : gg_M} {Q : Int32 → gg_M → Prop} (h : w_X11_runsBy a1 u Q) : gg_Mt 4 yX11_runsBy cX11_runsBy 4 (some .boolean) [.ref 1, .int a1] u (gg_eI Q) :=
  gg_intro (own := RX11) (by decide +kernel) rfl rfl (Nat.le_of_ble_eq_true rfl) (fun G hG => m_X11_runsBy hG  h)
