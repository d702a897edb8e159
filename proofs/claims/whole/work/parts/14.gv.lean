/-! X11_motorNow -/
def w_X11_motorNow_c14 (a1 : Int32) (u : gg_M)  (Q : Int32 → gg_M → Prop) : Prop :=
  Q a1 u
set_option maxRecDepth 10000 in
theorem m_X11_motorNow_c14 {a1 : Int32} {u : gg_M}  {G : gg_T} {Q : Int32 → gg_M → Prop} (hG : gg_Cl none cX11_motorNow 2 RX11 (some .int) 3 (gg_eI Q) G)  (h : w_X11_motorNow_c14 a1 u  Q)   : G 14 [none, some (.int a1)] [] u := by
  unfold w_X11_motorNow_c14 at h
  refine gg_iload_n hG dX11_motorNow_14 rfl rfl ?_
  exact gg_iret hG dX11_motorNow_15 rfl rfl ⟨_, rfl, h⟩
def w_X11_motorNow  (u : gg_M)  (Q : Int32 → gg_M → Prop) : Prop :=
  w_X11_motorFault u (fun v2 u1 =>
  (v2 = (-1) →
   w_X11_motorNow_c14 v2 u1 Q) ∧
  (¬ v2 = (-1) →
   w_X11_plain u1 (fun u4 =>
   w_X11_motorNow_c14 v2 u4 Q)))
set_option maxRecDepth 10000 in
theorem m_X11_motorNow  {u : gg_M}  {G : gg_T} {Q : Int32 → gg_M → Prop} (hG : gg_Cl none cX11_motorNow 2 RX11 (some .int) 3 (gg_eI Q) G)  (h : w_X11_motorNow  u  Q)   : G 0 [some (.ref 1), none] [] u := by
  unfold w_X11_motorNow at h
  refine gg_aload_n hG dX11_motorNow_0 rfl rfl ?_
  refine gg_xv (As := []) (st := []) hG dX11_motorNow_1 ml_RX11_97 Y_X11_motorFault YV_X11_motorFault (by decide) ⟨_, rfl, rfl⟩ (mt_X11_motorFault h) rfl (by decide) (Nat.le_of_ble_eq_true rfl) rfl (gg_ki (fun v2 u1 h => ?_))
  refine gg_istore_n (L1 := [some (.ref 1), some (.int v2)]) hG dX11_motorNow_4 rfl (by decide) rfl ?_
  refine gg_iload_n hG dX11_motorNow_5 rfl rfl ?_
  refine gg_iconst (v := (-1)) hG dX11_motorNow_6 (by decide) ?_
  refine gg_ic_eq (tgt := 14) hG dX11_motorNow_7 (by decide) (fun c3 => ?_) (fun c3 => ?_)
  · replace h := h.1 c3
    refine gg_mk hG [false, true] rfl ?_
    exact m_X11_motorNow_c14 hG h
  · replace h := h.2 c3
    refine gg_aload_n hG dX11_motorNow_10 rfl rfl ?_
    refine gg_xv (As := []) (st := []) hG dX11_motorNow_11 ml_RX11_76 Y_X11_plain YV_X11_plain (by decide) ⟨_, rfl, rfl⟩ (mt_X11_plain h) rfl (by decide) (Nat.le_of_ble_eq_true rfl) rfl (gg_kv (fun u4 h => ?_))
    refine gg_mk hG [false, true] rfl ?_
    exact m_X11_motorNow_c14 hG h
theorem mt_X11_motorNow   {u : gg_M} {Q : Int32 → gg_M → Prop} (h : w_X11_motorNow  u Q) : gg_Mt 3 yX11_motorNow cX11_motorNow 2 (some .int) [.ref 1] u (gg_eI Q) :=
  gg_intro (own := RX11) (by decide +kernel) rfl rfl (Nat.le_of_ble_eq_true rfl) (fun G hG => m_X11_motorNow hG  h)
/-! X11_habitNow -/
def b_X11_habitNow_c100 (a1 : Int32) (a2 : Int32) (a3 : Int32) (a4 : Int32) (u : gg_M) (k7 : Int32 × gg_M → Prop) (k100 : Int32 × gg_M → Prop) (Q : Int32 → gg_M → Prop) : Prop :=
  (a3 ≤ a4 →
   (¬ a1 = (u.1 48 1) →
    w_X11_byteAt 1 a1 u (fun v4 u3 =>
    (v4 = 44 →
     k7 ((a1 + 1), u3)) ∧
    (¬ v4 = 44 →
     ∀ u6 : gg_M, u6 = gg_wI u3 1 4 0 →
     Q a1 u6))) ∧
   (a1 = (u.1 48 1) →
    Q (-1) u)) ∧
  (¬ a3 ≤ a4 →
   vp_in (u.1 1 4) 200 ∧
   ∀ u8 : gg_M, u8 = gg_wI u 50 ((u.1 1 4).toNatClampNeg) a2 →
   ∀ u9 : gg_M, u9 = gg_wI u8 1 4 ((u8.1 1 4) + 1) →
   k100 ((a4 + 1), u9))
set_option maxRecDepth 10000 in
theorem mb_X11_habitNow_c100 {a1 : Int32} {a2 : Int32} {a3 : Int32} {a4 : Int32} {u : gg_M} {k7 : Int32 × gg_M → Prop} {k100 : Int32 × gg_M → Prop} {G : gg_T} {Q : Int32 → gg_M → Prop} (hG : gg_Cl none cX11_habitNow 5 RX11 (some .int) 2 (gg_eI Q) G)  (h : b_X11_habitNow_c100 a1 a2 a3 a4 u k7 k100 Q)  (hk7 : ∀ s : Int32 × gg_M, k7 s → G 7 [some (.ref 1), some (.int s.1), none, none, none] [] s.2) (hk100 : ∀ s : Int32 × gg_M, k100 s → G 100 [some (.ref 1), some (.int a1), some (.int a2), some (.int a3), some (.int s.1)] [] s.2) : G 100 [some (.ref 1), some (.int a1), some (.int a2), some (.int a3), some (.int a4)] [] u := by
  unfold b_X11_habitNow_c100 at h
  refine gg_iload hG dX11_habitNow_100 rfl ?_
  refine gg_iload_n hG dX11_habitNow_102 rfl rfl ?_
  refine gg_ic_ge (tgt := 132) hG dX11_habitNow_103 (by decide) (fun c1 => ?_) (fun c1 => ?_)
  · replace h := h.1 c1
    refine gg_iload_n hG dX11_habitNow_132 rfl rfl ?_
    refine gg_aload_n hG dX11_habitNow_133 rfl rfl ?_
    refine gg_get (v := .ref 48) hG dX11_habitNow_134 (by decide) rfl fl_RX11_13 rfl ?_
    refine gg_iconst (v := 1) hG dX11_habitNow_137 (by decide) ?_
    refine gg_iald (j := 1) hG dX11_habitNow_138 (by decide) rfl (gg_vin (by decide +kernel)) (by decide) ?_
    refine gg_ic_ne (tgt := 144) hG dX11_habitNow_139 (by decide) (fun c2 => ?_) (fun c2 => ?_)
    · replace h := h.1 c2
      refine gg_aload_n hG dX11_habitNow_144 rfl rfl ?_
      refine gg_iconst (v := 1) hG dX11_habitNow_145 (by decide) ?_
      refine gg_iload_n hG dX11_habitNow_146 rfl rfl ?_
      refine gg_xv (As := [.int 1, .int a1]) (st := []) hG dX11_habitNow_147 ml_RX11_83 Y_X11_byteAt YV_X11_byteAt (by decide) ⟨_, rfl, rfl⟩ (mt_X11_byteAt h) rfl (by decide) (Nat.le_of_ble_eq_true rfl) rfl (gg_ki (fun v4 u3 h => ?_))
      refine gg_bipush (v := 44) hG dX11_habitNow_150 (by decide) ?_
      refine gg_ic_eq (tgt := 162) hG dX11_habitNow_152 (by decide) (fun c5 => ?_) (fun c5 => ?_)
      · replace h := h.1 c5
        refine gg_iinc (v := (a1 + 1)) (L1 := [some (.ref 1), some (.int (a1 + 1)), some (.int a2), some (.int a3), some (.int a4)]) hG dX11_habitNow_162 rfl rfl (by decide) rfl ?_
        refine gg_goto (tgt := 7) hG dX11_habitNow_165 (by decide) ?_
        refine gg_mk hG [true, true, false, false, false] rfl ?_
        exact hk7 _ h
      · replace h := h.2 c5
        refine gg_aload_n hG dX11_habitNow_155 rfl rfl ?_
        refine gg_iconst (v := 0) hG dX11_habitNow_156 (by decide) ?_
        refine gg_putI hG dX11_habitNow_157 (by decide) rfl fp_RX11_101 rfl rfl rfl ?_
        refine gg_nu (fun u6 eu6 => ?_)
        replace h := h u6 eu6
        refine gg_iload_n hG dX11_habitNow_160 rfl rfl ?_
        exact gg_iret hG dX11_habitNow_161 rfl rfl ⟨_, rfl, h⟩
    · replace h := h.2 c2
      refine gg_iconst (v := (-1)) hG dX11_habitNow_142 (by decide) ?_
      exact gg_iret hG dX11_habitNow_143 rfl rfl ⟨_, rfl, h⟩
  · replace h := h.2 c1
    refine gg_aload_n hG dX11_habitNow_106 rfl rfl ?_
    refine gg_get (v := .ref 50) hG dX11_habitNow_107 (by decide) rfl fl_RX11_19 rfl ?_
    refine gg_aload_n hG dX11_habitNow_110 rfl rfl ?_
    refine gg_get (v := .int (u.1 1 4)) hG dX11_habitNow_111 (by decide) rfl fl_RX11_101 rfl ?_
    refine gg_iload_n hG dX11_habitNow_114 rfl rfl ?_
    obtain ⟨h7, h⟩ := h
    refine gg_iast (j := (u.1 1 4).toNatClampNeg) hG dX11_habitNow_115 (by decide) rfl h7 rfl ?_
    refine gg_nu (fun u8 eu8 => ?_)
    replace h := h u8 eu8
    refine gg_aload_n hG dX11_habitNow_116 rfl rfl ?_
    refine gg_dup hG dX11_habitNow_117 rfl ?_
    refine gg_get (v := .int (u8.1 1 4)) hG dX11_habitNow_118 (by decide) rfl fl_RX11_101 rfl ?_
    refine gg_iconst (v := 1) hG dX11_habitNow_121 (by decide) ?_
    refine gg_iadd hG dX11_habitNow_122 ?_
    refine gg_putI hG dX11_habitNow_123 (by decide) rfl fp_RX11_101 rfl rfl rfl ?_
    refine gg_nu (fun u9 eu9 => ?_)
    replace h := h u9 eu9
    refine gg_iinc (v := (a4 + 1)) (L1 := [some (.ref 1), some (.int a1), some (.int a2), some (.int a3), some (.int (a4 + 1))]) hG dX11_habitNow_126 rfl rfl (by decide) rfl ?_
    refine gg_goto (tgt := 100) hG dX11_habitNow_129 (by decide) ?_
    exact hk100 _ h
def w_X11_habitNow_c100 (a1 : Int32) (a2 : Int32) (a3 : Int32) (a4 : Int32) (u : gg_M) (k7 : Int32 × gg_M → Prop) (Q : Int32 → gg_M → Prop) : Prop :=
  gg_loop (fun (s : Int32 × gg_M) k100 => b_X11_habitNow_c100 a1 a2 a3 s.1 s.2 k7 k100 Q) (a4, u)
set_option maxRecDepth 10000 in
theorem m_X11_habitNow_c100 {a1 : Int32} {a2 : Int32} {a3 : Int32} {a4 : Int32} {u : gg_M} {k7 : Int32 × gg_M → Prop} {G : gg_T} {Q : Int32 → gg_M → Prop} (hG : gg_Cl none cX11_habitNow 5 RX11 (some .int) 2 (gg_eI Q) G)  (h : w_X11_habitNow_c100 a1 a2 a3 a4 u k7 Q)  (hk7 : ∀ s : Int32 × gg_M, k7 s → G 7 [some (.ref 1), some (.int s.1), none, none, none] [] s.2) : G 100 [some (.ref 1), some (.int a1), some (.int a2), some (.int a3), some (.int a4)] [] u :=
  gg_loop_use (P := fun s : Int32 × gg_M => G 100 [some (.ref 1), some (.int a1), some (.int a2), some (.int a3), some (.int s.1)] [] s.2) h (fun s rc hb hr => mb_X11_habitNow_c100 hG  hb  hk7 hr)
def w_X11_habitNow_c97 (a1 : Int32) (a2 : Int32) (a3 : Int32) (u : gg_M) (k7 : Int32 × gg_M → Prop) (Q : Int32 → gg_M → Prop) : Prop :=
  w_X11_habitNow_c100 a1 a2 a3 0 u k7 Q
set_option maxRecDepth 10000 in
theorem m_X11_habitNow_c97 {a1 : Int32} {a2 : Int32} {a3 : Int32} {u : gg_M} {k7 : Int32 × gg_M → Prop} {G : gg_T} {Q : Int32 → gg_M → Prop} (hG : gg_Cl none cX11_habitNow 5 RX11 (some .int) 2 (gg_eI Q) G)  (h : w_X11_habitNow_c97 a1 a2 a3 u k7 Q)  (hk7 : ∀ s : Int32 × gg_M, k7 s → G 7 [some (.ref 1), some (.int s.1), none, none, none] [] s.2) : G 97 [some (.ref 1), some (.int a1), some (.int a2), some (.int a3), none] [] u := by
  unfold w_X11_habitNow_c97 at h
  refine gg_iconst (v := 0) hG dX11_habitNow_97 (by decide) ?_
  refine gg_istore (L1 := [some (.ref 1), some (.int a1), some (.int a2), some (.int a3), some (.int 0)]) hG dX11_habitNow_98 (by decide) rfl ?_
  exact m_X11_habitNow_c100 hG h hk7
def w_X11_habitNow_c21 (a1 : Int32) (u : gg_M) (k7 : Int32 × gg_M → Prop) (Q : Int32 → gg_M → Prop) : Prop :=
  w_X11_byteAt 1 a1 u (fun v11 u10 =>
  ∀ v12 : Int32, v12 = (v11 - 48) →
  w_X11_in v12 0 9 u10 (fun v14 u13 =>
  (¬ v14 = 0 →
   w_X11_byteAt 1 (a1 + 1) u13 (fun v17 u16 =>
   (¬ v17 = 42 →
    w_X11_habitNow_c97 (a1 + 1) v12 1 u16 k7 Q) ∧
   (v17 = 42 →
    w_X11_byteAt 1 ((a1 + 1) + 1) u16 (fun v20 u19 =>
    ∀ v21 : Int32, v21 = (v20 - 48) →
    w_X11_in v21 2 9 u19 (fun v23 u22 =>
    (¬ v23 = 0 →
     w_X11_habitNow_c97 (((a1 + 1) + 1) + 1) v12 v21 u22 k7 Q) ∧
    (v23 = 0 →
     ∀ u25 : gg_M, u25 = gg_wI u22 1 4 0 →
     Q ((a1 + 1) + 1) u25)))))) ∧
  (v14 = 0 →
   ∀ u26 : gg_M, u26 = gg_wI u13 1 4 0 →
   Q a1 u26)))
set_option maxRecDepth 10000 in
theorem m_X11_habitNow_c21 {a1 : Int32} {u : gg_M} {k7 : Int32 × gg_M → Prop} {G : gg_T} {Q : Int32 → gg_M → Prop} (hG : gg_Cl none cX11_habitNow 5 RX11 (some .int) 2 (gg_eI Q) G)  (h : w_X11_habitNow_c21 a1 u k7 Q)  (hk7 : ∀ s : Int32 × gg_M, k7 s → G 7 [some (.ref 1), some (.int s.1), none, none, none] [] s.2) : G 21 [some (.ref 1), some (.int a1), none, none, none] [] u := by
  unfold w_X11_habitNow_c21 at h
  refine gg_aload_n hG dX11_habitNow_21 rfl rfl ?_
  refine gg_iconst (v := 1) hG dX11_habitNow_22 (by decide) ?_
  refine gg_iload_n hG dX11_habitNow_23 rfl rfl ?_
  refine gg_xv (As := [.int 1, .int a1]) (st := []) hG dX11_habitNow_24 ml_RX11_83 Y_X11_byteAt YV_X11_byteAt (by decide) ⟨_, rfl, rfl⟩ (mt_X11_byteAt h) rfl (by decide) (Nat.le_of_ble_eq_true rfl) rfl (gg_ki (fun v11 u10 h => ?_))
  refine gg_bipush (v := 48) hG dX11_habitNow_27 (by decide) ?_
  refine gg_isub hG dX11_habitNow_29 ?_
  refine gg_ni (fun v12 e12 => ?_)
  replace h := h v12 e12
  refine gg_istore_n (L1 := [some (.ref 1), some (.int a1), some (.int v12), none, none]) hG dX11_habitNow_30 rfl (by decide) rfl ?_
  refine gg_iload_n hG dX11_habitNow_31 rfl rfl ?_
  refine gg_iconst (v := 0) hG dX11_habitNow_32 (by decide) ?_
  refine gg_bipush (v := 9) hG dX11_habitNow_33 (by decide) ?_
  refine gg_xs (As := [.int v12, .int 0, .int 9]) (st := []) hG dX11_habitNow_35 ml_RX11_68 Y_X11_in YS_X11_in (mt_X11_in h) rfl (by decide) (Nat.le_of_ble_eq_true rfl) rfl (gg_ki (fun v14 u13 h => ?_))
  refine gg_if_ne (tgt := 48) hG dX11_habitNow_38 (by decide) (fun c15 => ?_) (fun c15 => ?_)
  · replace h := h.1 c15
    refine gg_iinc (v := (a1 + 1)) (L1 := [some (.ref 1), some (.int (a1 + 1)), some (.int v12), none, none]) hG dX11_habitNow_48 rfl rfl (by decide) rfl ?_
    refine gg_iconst (v := 1) hG dX11_habitNow_51 (by decide) ?_
    refine gg_istore_n (L1 := [some (.ref 1), some (.int (a1 + 1)), some (.int v12), some (.int 1), none]) hG dX11_habitNow_52 rfl (by decide) rfl ?_
    refine gg_aload_n hG dX11_habitNow_53 rfl rfl ?_
    refine gg_iconst (v := 1) hG dX11_habitNow_54 (by decide) ?_
    refine gg_iload_n hG dX11_habitNow_55 rfl rfl ?_
    refine gg_xv (As := [.int 1, .int (a1 + 1)]) (st := []) hG dX11_habitNow_56 ml_RX11_83 Y_X11_byteAt YV_X11_byteAt (by decide) ⟨_, rfl, rfl⟩ (mt_X11_byteAt h) rfl (by decide) (Nat.le_of_ble_eq_true rfl) rfl (gg_ki (fun v17 u16 h => ?_))
    refine gg_bipush (v := 42) hG dX11_habitNow_59 (by decide) ?_
    refine gg_ic_ne (tgt := 97) hG dX11_habitNow_61 (by decide) (fun c18 => ?_) (fun c18 => ?_)
    · replace h := h.1 c18
      exact m_X11_habitNow_c97 hG h hk7
    · replace h := h.2 c18
      refine gg_iinc (v := ((a1 + 1) + 1)) (L1 := [some (.ref 1), some (.int ((a1 + 1) + 1)), some (.int v12), some (.int 1), none]) hG dX11_habitNow_64 rfl rfl (by decide) rfl ?_
      refine gg_aload_n hG dX11_habitNow_67 rfl rfl ?_
      refine gg_iconst (v := 1) hG dX11_habitNow_68 (by decide) ?_
      refine gg_iload_n hG dX11_habitNow_69 rfl rfl ?_
      refine gg_xv (As := [.int 1, .int ((a1 + 1) + 1)]) (st := []) hG dX11_habitNow_70 ml_RX11_83 Y_X11_byteAt YV_X11_byteAt (by decide) ⟨_, rfl, rfl⟩ (mt_X11_byteAt h) rfl (by decide) (Nat.le_of_ble_eq_true rfl) rfl (gg_ki (fun v20 u19 h => ?_))
      refine gg_bipush (v := 48) hG dX11_habitNow_73 (by decide) ?_
      refine gg_isub hG dX11_habitNow_75 ?_
      refine gg_ni (fun v21 e21 => ?_)
      replace h := h v21 e21
      refine gg_istore_n (L1 := [some (.ref 1), some (.int ((a1 + 1) + 1)), some (.int v12), some (.int v21), none]) hG dX11_habitNow_76 rfl (by decide) rfl ?_
      refine gg_iload_n hG dX11_habitNow_77 rfl rfl ?_
      refine gg_iconst (v := 2) hG dX11_habitNow_78 (by decide) ?_
      refine gg_bipush (v := 9) hG dX11_habitNow_79 (by decide) ?_
      refine gg_xs (As := [.int v21, .int 2, .int 9]) (st := []) hG dX11_habitNow_81 ml_RX11_68 Y_X11_in YS_X11_in (mt_X11_in h) rfl (by decide) (Nat.le_of_ble_eq_true rfl) rfl (gg_ki (fun v23 u22 h => ?_))
      refine gg_if_ne (tgt := 94) hG dX11_habitNow_84 (by decide) (fun c24 => ?_) (fun c24 => ?_)
      · replace h := h.1 c24
        refine gg_iinc (v := (((a1 + 1) + 1) + 1)) (L1 := [some (.ref 1), some (.int (((a1 + 1) + 1) + 1)), some (.int v12), some (.int v21), none]) hG dX11_habitNow_94 rfl rfl (by decide) rfl ?_
        exact m_X11_habitNow_c97 hG h hk7
      · replace h := h.2 c24
        refine gg_aload_n hG dX11_habitNow_87 rfl rfl ?_
        refine gg_iconst (v := 0) hG dX11_habitNow_88 (by decide) ?_
        refine gg_putI hG dX11_habitNow_89 (by decide) rfl fp_RX11_101 rfl rfl rfl ?_
        refine gg_nu (fun u25 eu25 => ?_)
        replace h := h u25 eu25
        refine gg_iload_n hG dX11_habitNow_92 rfl rfl ?_
        exact gg_iret hG dX11_habitNow_93 rfl rfl ⟨_, rfl, h⟩
  · replace h := h.2 c15
    refine gg_aload_n hG dX11_habitNow_41 rfl rfl ?_
    refine gg_iconst (v := 0) hG dX11_habitNow_42 (by decide) ?_
    refine gg_putI hG dX11_habitNow_43 (by decide) rfl fp_RX11_101 rfl rfl rfl ?_
    refine gg_nu (fun u26 eu26 => ?_)
    replace h := h u26 eu26
    refine gg_iload_n hG dX11_habitNow_46 rfl rfl ?_
    exact gg_iret hG dX11_habitNow_47 rfl rfl ⟨_, rfl, h⟩
def b_X11_habitNow_c7  (a1 : Int32) (u : gg_M)  (k7 : Int32 × gg_M → Prop) (Q : Int32 → gg_M → Prop) : Prop :=
  (a1 < (u.1 48 1) →
   w_X11_habitNow_c21 a1 u k7 Q) ∧
  (¬ a1 < (u.1 48 1) →
   (a1 ≤ 0 →
    Q (-1) u) ∧
   (¬ a1 ≤ 0 →
    w_X11_habitNow_c21 a1 u k7 Q))
set_option maxRecDepth 10000 in
theorem mb_X11_habitNow_c7  {a1 : Int32} {u : gg_M}  {k7 : Int32 × gg_M → Prop} {G : gg_T} {Q : Int32 → gg_M → Prop} (hG : gg_Cl none cX11_habitNow 5 RX11 (some .int) 2 (gg_eI Q) G)  (h : b_X11_habitNow_c7 a1 u k7 Q)   (hk7 : ∀ s : Int32 × gg_M, k7 s → G 7 [some (.ref 1), some (.int s.1), none, none, none] [] s.2) : G 7 [some (.ref 1), some (.int a1), none, none, none] [] u := by
  unfold b_X11_habitNow_c7 at h
  refine gg_iload_n hG dX11_habitNow_7 rfl rfl ?_
  refine gg_aload_n hG dX11_habitNow_8 rfl rfl ?_
  refine gg_get (v := .ref 48) hG dX11_habitNow_9 (by decide) rfl fl_RX11_13 rfl ?_
  refine gg_iconst (v := 1) hG dX11_habitNow_12 (by decide) ?_
  refine gg_iald (j := 1) hG dX11_habitNow_13 (by decide) rfl (gg_vin (by decide +kernel)) (by decide) ?_
  refine gg_ic_lt (tgt := 21) hG dX11_habitNow_14 (by decide) (fun c27 => ?_) (fun c27 => ?_)
  · replace h := h.1 c27
    exact m_X11_habitNow_c21 hG h hk7
  · replace h := h.2 c27
    refine gg_iload_n hG dX11_habitNow_17 rfl rfl ?_
    refine gg_if_le (tgt := 168) hG dX11_habitNow_18 (by decide) (fun c28 => ?_) (fun c28 => ?_)
    · replace h := h.1 c28
      refine gg_iconst (v := (-1)) hG dX11_habitNow_168 (by decide) ?_
      exact gg_iret hG dX11_habitNow_169 rfl rfl ⟨_, rfl, h⟩
    · replace h := h.2 c28
      exact m_X11_habitNow_c21 hG h hk7
def w_X11_habitNow_c7 (a1 : Int32) (u : gg_M)  (Q : Int32 → gg_M → Prop) : Prop :=
  gg_loop (fun (s : Int32 × gg_M) k7 => b_X11_habitNow_c7  s.1 s.2  k7 Q) (a1, u)
set_option maxRecDepth 10000 in
theorem m_X11_habitNow_c7 {a1 : Int32} {u : gg_M}  {G : gg_T} {Q : Int32 → gg_M → Prop} (hG : gg_Cl none cX11_habitNow 5 RX11 (some .int) 2 (gg_eI Q) G)  (h : w_X11_habitNow_c7 a1 u  Q)   : G 7 [some (.ref 1), some (.int a1), none, none, none] [] u :=
  gg_loop_use (P := fun s : Int32 × gg_M => G 7 [some (.ref 1), some (.int s.1), none, none, none] [] s.2) h (fun s rc hb hr => mb_X11_habitNow_c7 hG  hb   hr)
def w_X11_habitNow  (u : gg_M)  (Q : Int32 → gg_M → Prop) : Prop :=
  ∀ u29 : gg_M, u29 = gg_wI u 1 4 0 →
  w_X11_habitNow_c7 0 u29 Q
set_option maxRecDepth 10000 in
theorem m_X11_habitNow  {u : gg_M}  {G : gg_T} {Q : Int32 → gg_M → Prop} (hG : gg_Cl none cX11_habitNow 5 RX11 (some .int) 2 (gg_eI Q) G)  (h : w_X11_habitNow  u  Q)   : G 0 [some (.ref 1), none, none, none, none] [] u := by
  unfold w_X11_habitNow at h
  refine gg_aload_n hG dX11_habitNow_0 rfl rfl ?_
  refine gg_iconst (v := 0) hG dX11_habitNow_1 (by decide) ?_
  refine gg_putI hG dX11_habitNow_2 (by decide) rfl fp_RX11_101 rfl rfl rfl ?_
  refine gg_nu (fun u29 eu29 => ?_)
  replace h := h u29 eu29
  refine gg_iconst (v := 0) hG dX11_habitNow_5 (by decide) ?_
  refine gg_istore_n (L1 := [some (.ref 1), some (.int 0), none, none, none]) hG dX11_habitNow_6 rfl (by decide) rfl ?_
  exact m_X11_habitNow_c7 hG h
theorem mt_X11_habitNow   {u : gg_M} {Q : Int32 → gg_M → Prop} (h : w_X11_habitNow  u Q) : gg_Mt 2 yX11_habitNow cX11_habitNow 5 (some .int) [.ref 1] u (gg_eI Q) :=
  gg_intro (own := RX11) (by decide +kernel) rfl rfl (Nat.le_of_ble_eq_true rfl) (fun G hG => m_X11_habitNow hG  h)
/-! X11_fault -/
def w_X11_fault_c25 (z0 : Int32) (u : gg_M)  (Q : Int32 → gg_M → Prop) : Prop :=
  Q z0 u
set_option maxRecDepth 10000 in
theorem m_X11_fault_c25 {z0 : Int32} {u : gg_M}  {G : gg_T} {Q : Int32 → gg_M → Prop} (hG : gg_Cl none cX11_fault 2 RX11 (some .int) 4 (gg_eI Q) G)  (h : w_X11_fault_c25 z0 u  Q)   : G 25 [none, none] [.int z0] u := by
  unfold w_X11_fault_c25 at h
  exact gg_iret hG dX11_fault_25 rfl rfl ⟨_, rfl, h⟩
def w_X11_fault (a1 : Int32) (u : gg_M)  (Q : Int32 → gg_M → Prop) : Prop :=
  (¬ a1 = 0 →
   (¬ a1 = 1 →
    w_X11_fault_c25 (-2) u Q) ∧
   (a1 = 1 →
    w_X11_habitNow u (fun v4 u3 =>
    w_X11_fault_c25 v4 u3 Q))) ∧
  (a1 = 0 →
   w_X11_motorNow u (fun v6 u5 =>
   w_X11_fault_c25 v6 u5 Q))
set_option maxRecDepth 10000 in
theorem m_X11_fault {a1 : Int32} {u : gg_M}  {G : gg_T} {Q : Int32 → gg_M → Prop} (hG : gg_Cl none cX11_fault 2 RX11 (some .int) 4 (gg_eI Q) G)  (h : w_X11_fault a1 u  Q)   : G 0 [some (.ref 1), some (.int a1)] [] u := by
  unfold w_X11_fault at h
  refine gg_iload_n hG dX11_fault_0 rfl rfl ?_
  refine gg_if_ne (tgt := 11) hG dX11_fault_1 (by decide) (fun c1 => ?_) (fun c1 => ?_)
  · replace h := h.1 c1
    refine gg_iload_n hG dX11_fault_11 rfl rfl ?_
    refine gg_iconst (v := 1) hG dX11_fault_12 (by decide) ?_
    refine gg_ic_ne (tgt := 23) hG dX11_fault_13 (by decide) (fun c2 => ?_) (fun c2 => ?_)
    · replace h := h.1 c2
      refine gg_bipush (v := (-2)) hG dX11_fault_23 (by decide) ?_
      refine gg_mk hG [false, false] rfl ?_
      exact m_X11_fault_c25 hG h
    · replace h := h.2 c2
      refine gg_aload_n hG dX11_fault_16 rfl rfl ?_
      refine gg_xv (As := []) (st := []) hG dX11_fault_17 ml_RX11_107 Y_X11_habitNow YV_X11_habitNow (by decide) ⟨_, rfl, rfl⟩ (mt_X11_habitNow h) rfl (by decide) (Nat.le_of_ble_eq_true rfl) rfl (gg_ki (fun v4 u3 h => ?_))
      refine gg_goto (tgt := 25) hG dX11_fault_20 (by decide) ?_
      refine gg_mk hG [false, false] rfl ?_
      exact m_X11_fault_c25 hG h
  · replace h := h.2 c1
    refine gg_aload_n hG dX11_fault_4 rfl rfl ?_
    refine gg_xv (As := []) (st := []) hG dX11_fault_5 ml_RX11_104 Y_X11_motorNow YV_X11_motorNow (by decide) ⟨_, rfl, rfl⟩ (mt_X11_motorNow h) rfl (by decide) (Nat.le_of_ble_eq_true rfl) rfl (gg_ki (fun v6 u5 h => ?_))
    refine gg_goto (tgt := 25) hG dX11_fault_8 (by decide) ?_
    refine gg_mk hG [false, false] rfl ?_
    exact m_X11_fault_c25 hG h
theorem mt_X11_fault {a1 : Int32}  {u : gg_M} {Q : Int32 → gg_M → Prop} (h : w_X11_fault a1 u Q) : gg_Mt 4 yX11_fault cX11_fault 2 (some .int) [.ref 1, .int a1] u (gg_eI Q) :=
  gg_intro (own := RX11) (by decide +kernel) rfl rfl (Nat.le_of_ble_eq_true rfl) (fun G hG => m_X11_fault hG  h)
/-! X11_motorOf -/
def w_X11_motorOf (a1 : Int32) (u : gg_M)  (Q : Int32 → gg_M → Prop) : Prop :=
  w_X11_motorNow u (fun v2 u1 =>
  vp_in a1 7 ∧
  Q (u1.1 49 a1.toNatClampNeg) u1)
set_option maxRecDepth 10000 in
theorem m_X11_motorOf {a1 : Int32} {u : gg_M}  {G : gg_T} {Q : Int32 → gg_M → Prop} (hG : gg_Cl none cX11_motorOf 3 RX11 (some .int) 4 (gg_eI Q) G)  (h : w_X11_motorOf a1 u  Q)   : G 0 [some (.ref 1), some (.int a1), none] [] u := by
  unfold w_X11_motorOf at h
  refine gg_aload_n hG dX11_motorOf_0 rfl rfl ?_
  refine gg_xv (As := []) (st := []) hG dX11_motorOf_1 ml_RX11_104 Y_X11_motorNow YV_X11_motorNow (by decide) ⟨_, rfl, rfl⟩ (mt_X11_motorNow h) rfl (by decide) (Nat.le_of_ble_eq_true rfl) rfl (gg_ki (fun v2 u1 h => ?_))
  refine gg_istore_n (L1 := [some (.ref 1), some (.int a1), some (.int v2)]) hG dX11_motorOf_4 rfl (by decide) rfl ?_
  refine gg_aload_n hG dX11_motorOf_5 rfl rfl ?_
  refine gg_get (v := .ref 49) hG dX11_motorOf_6 (by decide) rfl fl_RX11_16 rfl ?_
  refine gg_iload_n hG dX11_motorOf_9 rfl rfl ?_
  obtain ⟨h3, h⟩ := h
  refine gg_iald (j := a1.toNatClampNeg) hG dX11_motorOf_10 (by decide) rfl h3 rfl ?_
  exact gg_iret hG dX11_motorOf_11 rfl rfl ⟨_, rfl, h⟩
theorem mt_X11_motorOf {a1 : Int32}  {u : gg_M} {Q : Int32 → gg_M → Prop} (h : w_X11_motorOf a1 u Q) : gg_Mt 4 yX11_motorOf cX11_motorOf 3 (some .int) [.ref 1, .int a1] u (gg_eI Q) :=
  gg_intro (own := RX11) (by decide +kernel) rfl rfl (Nat.le_of_ble_eq_true rfl) (fun G hG => m_X11_motorOf hG  h)
/-! X11_motor -/
def w_X11_motor_c20 (z0 : Int32) (u : gg_M)  (Q : Int32 → gg_M → Prop) : Prop :=
  Q z0 u
set_option maxRecDepth 10000 in
theorem m_X11_motor_c20 {z0 : Int32} {u : gg_M}  {G : gg_T} {Q : Int32 → gg_M → Prop} (hG : gg_Cl none cX11_motor 2 RX11 (some .int) 5 (gg_eI Q) G)  (h : w_X11_motor_c20 z0 u  Q)   : G 20 [none, none] [.int z0] u := by
  unfold w_X11_motor_c20 at h
  exact gg_iret hG dX11_motor_20 rfl rfl ⟨_, rfl, h⟩
def w_X11_motor (a1 : Int32) (u : gg_M)  (Q : Int32 → gg_M → Prop) : Prop :=
  w_X11_in a1 0 6 u (fun v2 u1 =>
  (v2 = 0 →
   w_X11_motor_c20 (-2) u1 Q) ∧
  (¬ v2 = 0 →
   w_X11_motorOf a1 u1 (fun v5 u4 =>
   w_X11_motor_c20 v5 u4 Q)))
set_option maxRecDepth 10000 in
theorem m_X11_motor {a1 : Int32} {u : gg_M}  {G : gg_T} {Q : Int32 → gg_M → Prop} (hG : gg_Cl none cX11_motor 2 RX11 (some .int) 5 (gg_eI Q) G)  (h : w_X11_motor a1 u  Q)   : G 0 [some (.ref 1), some (.int a1)] [] u := by
  unfold w_X11_motor at h
  refine gg_iload_n hG dX11_motor_0 rfl rfl ?_
  refine gg_iconst (v := 0) hG dX11_motor_1 (by decide) ?_
  refine gg_bipush (v := 6) hG dX11_motor_2 (by decide) ?_
  refine gg_xs (As := [.int a1, .int 0, .int 6]) (st := []) hG dX11_motor_4 ml_RX11_68 Y_X11_in YS_X11_in (mt_X11_in h) rfl (by decide) (Nat.le_of_ble_eq_true rfl) rfl (gg_ki (fun v2 u1 h => ?_))
  refine gg_if_eq (tgt := 18) hG dX11_motor_7 (by decide) (fun c3 => ?_) (fun c3 => ?_)
  · replace h := h.1 c3
    refine gg_bipush (v := (-2)) hG dX11_motor_18 (by decide) ?_
    refine gg_mk hG [false, false] rfl ?_
    exact m_X11_motor_c20 hG h
  · replace h := h.2 c3
    refine gg_aload_n hG dX11_motor_10 rfl rfl ?_
    refine gg_iload_n hG dX11_motor_11 rfl rfl ?_
    refine gg_xv (As := [.int a1]) (st := []) hG dX11_motor_12 ml_RX11_110 Y_X11_motorOf YV_X11_motorOf (by decide) ⟨_, rfl, rfl⟩ (mt_X11_motorOf h) rfl (by decide) (Nat.le_of_ble_eq_true rfl) rfl (gg_ki (fun v5 u4 h => ?_))
    refine gg_goto (tgt := 20) hG dX11_motor_15 (by decide) ?_
    refine gg_mk hG [false, false] rfl ?_
    exact m_X11_motor_c20 hG h
theorem mt_X11_motor {a1 : Int32}  {u : gg_M} {Q : Int32 → gg_M → Prop} (h : w_X11_motor a1 u Q) : gg_Mt 5 yX11_motor cX11_motor 2 (some .int) [.ref 1, .int a1] u (gg_eI Q) :=
  gg_intro (own := RX11) (by decide +kernel) rfl rfl (Nat.le_of_ble_eq_true rfl) (fun G hG => m_X11_motor hG  h)
/-! X11_begins -/
def b_X11_begins_c41 (a2 : Int32) (a3 : Int32) (a4 : Int32) (u : gg_M)  (k41 : Int32 × gg_M → Prop) (Q : gg_M → Prop) : Prop :=
  (8 ≤ a4 →
   vp_in (a3 + 6) 1024 ∧
   ∀ u3 : gg_M, u3 = gg_wI u 51 ((a3 + 6).toNatClampNeg) a2 →
   Q u3) ∧
  (¬ 8 ≤ a4 →
   vp_in (a3 + a4) 1024 ∧
   ∀ u5 : gg_M, u5 = gg_wI u 51 ((a3 + a4).toNatClampNeg) 0 →
   k41 ((a4 + 1), u5))
set_option maxRecDepth 10000 in
theorem mb_X11_begins_c41 {a2 : Int32} {a3 : Int32} {a4 : Int32} {u : gg_M}  {k41 : Int32 × gg_M → Prop} {G : gg_T} {Q : gg_M → Prop} (hG : gg_Cl none cX11_begins 5 RX11 none 1 (gg_eV Q) G)  (h : b_X11_begins_c41 a2 a3 a4 u k41 Q)   (hk41 : ∀ s : Int32 × gg_M, k41 s → G 41 [some (.ref 1), none, some (.int a2), some (.int a3), some (.int s.1)] [] s.2) : G 41 [some (.ref 1), none, some (.int a2), some (.int a3), some (.int a4)] [] u := by
  unfold b_X11_begins_c41 at h
  refine gg_iload hG dX11_begins_41 rfl ?_
  refine gg_bipush (v := 8) hG dX11_begins_43 (by decide) ?_
  refine gg_ic_ge (tgt := 64) hG dX11_begins_45 (by decide) (fun c1 => ?_) (fun c1 => ?_)
  · replace h := h.1 c1
    refine gg_aload_n hG dX11_begins_64 rfl rfl ?_
    refine gg_get (v := .ref 51) hG dX11_begins_65 (by decide) rfl fl_RX11_22 rfl ?_
    refine gg_iload_n hG dX11_begins_68 rfl rfl ?_
    refine gg_bipush (v := 6) hG dX11_begins_69 (by decide) ?_
    refine gg_iadd hG dX11_begins_71 ?_
    refine gg_iload_n hG dX11_begins_72 rfl rfl ?_
    obtain ⟨h2, h⟩ := h
    refine gg_iast (j := (a3 + 6).toNatClampNeg) hG dX11_begins_73 (by decide) rfl h2 rfl ?_
    refine gg_nu (fun u3 eu3 => ?_)
    replace h := h u3 eu3
    exact gg_vret hG dX11_begins_74 rfl ⟨rfl, h⟩
  · replace h := h.2 c1
    refine gg_aload_n hG dX11_begins_48 rfl rfl ?_
    refine gg_get (v := .ref 51) hG dX11_begins_49 (by decide) rfl fl_RX11_22 rfl ?_
    refine gg_iload_n hG dX11_begins_52 rfl rfl ?_
    refine gg_iload hG dX11_begins_53 rfl ?_
    refine gg_iadd hG dX11_begins_55 ?_
    refine gg_iconst (v := 0) hG dX11_begins_56 (by decide) ?_
    obtain ⟨h4, h⟩ := h
    refine gg_iast (j := (a3 + a4).toNatClampNeg) hG dX11_begins_57 (by decide) rfl h4 rfl ?_
    refine gg_nu (fun u5 eu5 => ?_)
    replace h := h u5 eu5
    refine gg_iinc (v := (a4 + 1)) (L1 := [some (.ref 1), none, some (.int a2), some (.int a3), some (.int (a4 + 1))]) hG dX11_begins_58 rfl rfl (by decide) rfl ?_
    refine gg_goto (tgt := 41) hG dX11_begins_61 (by decide) ?_
    exact hk41 _ h
def w_X11_begins_c41 (a2 : Int32) (a3 : Int32) (a4 : Int32) (u : gg_M)  (Q : gg_M → Prop) : Prop :=
  gg_loop (fun (s : Int32 × gg_M) k41 => b_X11_begins_c41 a2 a3 s.1 s.2  k41 Q) (a4, u)
set_option maxRecDepth 10000 in
theorem m_X11_begins_c41 {a2 : Int32} {a3 : Int32} {a4 : Int32} {u : gg_M}  {G : gg_T} {Q : gg_M → Prop} (hG : gg_Cl none cX11_begins 5 RX11 none 1 (gg_eV Q) G)  (h : w_X11_begins_c41 a2 a3 a4 u  Q)   : G 41 [some (.ref 1), none, some (.int a2), some (.int a3), some (.int a4)] [] u :=
  gg_loop_use (P := fun s : Int32 × gg_M => G 41 [some (.ref 1), none, some (.int a2), some (.int a3), some (.int s.1)] [] s.2) h (fun s rc hb hr => mb_X11_begins_c41 hG  hb   hr)
def w_X11_begins (a1 : Int32) (a2 : Int32) (u : gg_M)  (Q : gg_M → Prop) : Prop :=
  ∀ v6 : Int32, v6 = (((256 : Int32) * a1) + ((8 : Int32) * a2)) →
  vp_in v6 1024 ∧
  ∀ u8 : gg_M, u8 = gg_wI u 51 v6.toNatClampNeg (u.1 49 5) →
  vp_in (v6 + 1) 1024 ∧
  ∀ u10 : gg_M, u10 = gg_wI u8 51 ((v6 + 1).toNatClampNeg) (u8.1 49 6) →
  w_X11_begins_c41 a2 v6 2 u10 Q
set_option maxRecDepth 10000 in
theorem m_X11_begins {a1 : Int32} {a2 : Int32} {u : gg_M}  {G : gg_T} {Q : gg_M → Prop} (hG : gg_Cl none cX11_begins 5 RX11 none 1 (gg_eV Q) G)  (h : w_X11_begins a1 a2 u  Q)   : G 0 [some (.ref 1), some (.int a1), some (.int a2), none, none] [] u := by
  unfold w_X11_begins at h
  refine gg_sipush (v := 256) hG dX11_begins_0 (by decide) ?_
  refine gg_iload_n hG dX11_begins_3 rfl rfl ?_
  refine gg_imul hG dX11_begins_4 ?_
  refine gg_bipush (v := 8) hG dX11_begins_5 (by decide) ?_
  refine gg_iload_n hG dX11_begins_7 rfl rfl ?_
  refine gg_imul hG dX11_begins_8 ?_
  refine gg_iadd hG dX11_begins_9 ?_
  refine gg_ni (fun v6 e6 => ?_)
  replace h := h v6 e6
  refine gg_istore_n (L1 := [some (.ref 1), some (.int a1), some (.int a2), some (.int v6), none]) hG dX11_begins_10 rfl (by decide) rfl ?_
  refine gg_aload_n hG dX11_begins_11 rfl rfl ?_
  refine gg_get (v := .ref 51) hG dX11_begins_12 (by decide) rfl fl_RX11_22 rfl ?_
  refine gg_iload_n hG dX11_begins_15 rfl rfl ?_
  refine gg_aload_n hG dX11_begins_16 rfl rfl ?_
  refine gg_get (v := .ref 49) hG dX11_begins_17 (by decide) rfl fl_RX11_16 rfl ?_
  refine gg_iconst (v := 5) hG dX11_begins_20 (by decide) ?_
  refine gg_iald (j := 5) hG dX11_begins_21 (by decide) rfl (gg_vin (by decide +kernel)) (by decide) ?_
  obtain ⟨h7, h⟩ := h
  refine gg_iast (j := v6.toNatClampNeg) hG dX11_begins_22 (by decide) rfl h7 rfl ?_
  refine gg_nu (fun u8 eu8 => ?_)
  replace h := h u8 eu8
  refine gg_aload_n hG dX11_begins_23 rfl rfl ?_
  refine gg_get (v := .ref 51) hG dX11_begins_24 (by decide) rfl fl_RX11_22 rfl ?_
  refine gg_iload_n hG dX11_begins_27 rfl rfl ?_
  refine gg_iconst (v := 1) hG dX11_begins_28 (by decide) ?_
  refine gg_iadd hG dX11_begins_29 ?_
  refine gg_aload_n hG dX11_begins_30 rfl rfl ?_
  refine gg_get (v := .ref 49) hG dX11_begins_31 (by decide) rfl fl_RX11_16 rfl ?_
  refine gg_bipush (v := 6) hG dX11_begins_34 (by decide) ?_
  refine gg_iald (j := 6) hG dX11_begins_36 (by decide) rfl (gg_vin (by decide +kernel)) (by decide) ?_
  obtain ⟨h9, h⟩ := h
  refine gg_iast (j := (v6 + 1).toNatClampNeg) hG dX11_begins_37 (by decide) rfl h9 rfl ?_
  refine gg_nu (fun u10 eu10 => ?_)
  replace h := h u10 eu10
  refine gg_iconst (v := 2) hG dX11_begins_38 (by decide) ?_
  refine gg_istore (L1 := [some (.ref 1), some (.int a1), some (.int a2), some (.int v6), some (.int 2)]) hG dX11_begins_39 (by decide) rfl ?_
  refine gg_mk hG [true, false, true, true, true] rfl ?_
  exact m_X11_begins_c41 hG h
theorem mt_X11_begins {a1 : Int32} {a2 : Int32}  {u : gg_M} {Q : gg_M → Prop} (h : w_X11_begins a1 a2 u Q) : gg_Mt 1 yX11_begins cX11_begins 5 none [.ref 1, .int a1, .int a2] u (gg_eV Q) :=
  gg_intro (own := RX11) (by decide +kernel) rfl rfl (Nat.le_of_ble_eq_true rfl) (fun G hG => m_X11_begins hG  h)
/-! X11_moves -/
def b_X11_moves_c3 (a1 : Int32) (a2 : Int32) (a3 : Int32) (a4 : Int32) (u : gg_M)  (k3 : Int32 × gg_M → Prop) (Q : gg_M → Prop) : Prop :=
  (8 ≤ a4 →
   Q u) ∧
  (¬ 8 ≤ a4 →
   vp_in ((((256 : Int32) * a1) + ((8 : Int32) * a3)) + a4) 1024 ∧
   vp_in ((((256 : Int32) * a2) + ((8 : Int32) * a3)) + a4) 1024 ∧
   ∀ u4 : gg_M, u4 = gg_wI u 51 (((((256 : Int32) * a2) + ((8 : Int32) * a3)) + a4).toNatClampNeg) (u.1 51 (((((256 : Int32) * a1) + ((8 : Int32) * a3)) + a4).toNatClampNeg)) →
   k3 ((a4 + 1), u4))
set_option maxRecDepth 10000 in
theorem mb_X11_moves_c3 {a1 : Int32} {a2 : Int32} {a3 : Int32} {a4 : Int32} {u : gg_M}  {k3 : Int32 × gg_M → Prop} {G : gg_T} {Q : gg_M → Prop} (hG : gg_Cl none cX11_moves 5 RX11 none 1 (gg_eV Q) G)  (h : b_X11_moves_c3 a1 a2 a3 a4 u k3 Q)   (hk3 : ∀ s : Int32 × gg_M, k3 s → G 3 [some (.ref 1), some (.int a1), some (.int a2), some (.int a3), some (.int s.1)] [] s.2) : G 3 [some (.ref 1), some (.int a1), some (.int a2), some (.int a3), some (.int a4)] [] u := by
  unfold b_X11_moves_c3 at h
  refine gg_iload hG dX11_moves_3 rfl ?_
  refine gg_bipush (v := 8) hG dX11_moves_5 (by decide) ?_
  refine gg_ic_ge (tgt := 52) hG dX11_moves_7 (by decide) (fun c1 => ?_) (fun c1 => ?_)
  · replace h := h.1 c1
    exact gg_vret hG dX11_moves_52 rfl ⟨rfl, h⟩
  · replace h := h.2 c1
    refine gg_aload_n hG dX11_moves_10 rfl rfl ?_
    refine gg_get (v := .ref 51) hG dX11_moves_11 (by decide) rfl fl_RX11_22 rfl ?_
    refine gg_sipush (v := 256) hG dX11_moves_14 (by decide) ?_
    refine gg_iload_n hG dX11_moves_17 rfl rfl ?_
    refine gg_imul hG dX11_moves_18 ?_
    refine gg_bipush (v := 8) hG dX11_moves_19 (by decide) ?_
    refine gg_iload_n hG dX11_moves_21 rfl rfl ?_
    refine gg_imul hG dX11_moves_22 ?_
    refine gg_iadd hG dX11_moves_23 ?_
    refine gg_iload hG dX11_moves_24 rfl ?_
    refine gg_iadd hG dX11_moves_26 ?_
    refine gg_aload_n hG dX11_moves_27 rfl rfl ?_
    refine gg_get (v := .ref 51) hG dX11_moves_28 (by decide) rfl fl_RX11_22 rfl ?_
    refine gg_sipush (v := 256) hG dX11_moves_31 (by decide) ?_
    refine gg_iload_n hG dX11_moves_34 rfl rfl ?_
    refine gg_imul hG dX11_moves_35 ?_
    refine gg_bipush (v := 8) hG dX11_moves_36 (by decide) ?_
    refine gg_iload_n hG dX11_moves_38 rfl rfl ?_
    refine gg_imul hG dX11_moves_39 ?_
    refine gg_iadd hG dX11_moves_40 ?_
    refine gg_iload hG dX11_moves_41 rfl ?_
    refine gg_iadd hG dX11_moves_43 ?_
    obtain ⟨h2, h⟩ := h
    refine gg_iald (j := ((((256 : Int32) * a1) + ((8 : Int32) * a3)) + a4).toNatClampNeg) hG dX11_moves_44 (by decide) rfl h2 rfl ?_
    obtain ⟨h3, h⟩ := h
    refine gg_iast (j := ((((256 : Int32) * a2) + ((8 : Int32) * a3)) + a4).toNatClampNeg) hG dX11_moves_45 (by decide) rfl h3 rfl ?_
    refine gg_nu (fun u4 eu4 => ?_)
    replace h := h u4 eu4
    refine gg_iinc (v := (a4 + 1)) (L1 := [some (.ref 1), some (.int a1), some (.int a2), some (.int a3), some (.int (a4 + 1))]) hG dX11_moves_46 rfl rfl (by decide) rfl ?_
    refine gg_goto (tgt := 3) hG dX11_moves_49 (by decide) ?_
    exact hk3 _ h
def w_X11_moves_c3 (a1 : Int32) (a2 : Int32) (a3 : Int32) (a4 : Int32) (u : gg_M)  (Q : gg_M → Prop) : Prop :=
  gg_loop (fun (s : Int32 × gg_M) k3 => b_X11_moves_c3 a1 a2 a3 s.1 s.2  k3 Q) (a4, u)
set_option maxRecDepth 10000 in
theorem m_X11_moves_c3 {a1 : Int32} {a2 : Int32} {a3 : Int32} {a4 : Int32} {u : gg_M}  {G : gg_T} {Q : gg_M → Prop} (hG : gg_Cl none cX11_moves 5 RX11 none 1 (gg_eV Q) G)  (h : w_X11_moves_c3 a1 a2 a3 a4 u  Q)   : G 3 [some (.ref 1), some (.int a1), some (.int a2), some (.int a3), some (.int a4)] [] u :=
  gg_loop_use (P := fun s : Int32 × gg_M => G 3 [some (.ref 1), some (.int a1), some (.int a2), some (.int a3), some (.int s.1)] [] s.2) h (fun s rc hb hr => mb_X11_moves_c3 hG  hb   hr)
def w_X11_moves (a1 : Int32) (a2 : Int32) (a3 : Int32) (u : gg_M)  (Q : gg_M → Prop) : Prop :=
  w_X11_moves_c3 a1 a2 a3 0 u Q
set_option maxRecDepth 10000 in
theorem m_X11_moves {a1 : Int32} {a2 : Int32} {a3 : Int32} {u : gg_M}  {G : gg_T} {Q : gg_M → Prop} (hG : gg_Cl none cX11_moves 5 RX11 none 1 (gg_eV Q) G)  (h : w_X11_moves a1 a2 a3 u  Q)   : G 0 [some (.ref 1), some (.int a1), some (.int a2), some (.int a3), none] [] u := by
  unfold w_X11_moves at h
  refine gg_iconst (v := 0) hG dX11_moves_0 (by decide) ?_
  refine gg_istore (L1 := [some (.ref 1), some (.int a1), some (.int a2), some (.int a3), some (.int 0)]) hG dX11_moves_1 (by decide) rfl ?_
  exact m_X11_moves_c3 hG h
theorem mt_X11_moves {a1 : Int32} {a2 : Int32} {a3 : Int32}  {u : gg_M} {Q : gg_M → Prop} (h : w_X11_moves a1 a2 a3 u Q) : gg_Mt 1 yX11_moves cX11_moves 5 none [.ref 1, .int a1, .int a2, .int a3] u (gg_eV Q) :=
  gg_intro (own := RX11) (by decide +kernel) rfl rfl (Nat.le_of_ble_eq_true rfl) (fun G hG => m_X11_moves hG  h)
/-! X11_lightFor -/
def w_X11_lightFor_c63 (z0 : Int32) (u : gg_M)  (Q : Int32 → gg_M → Prop) : Prop :=
  Q z0 u
set_option maxRecDepth 10000 in
theorem m_X11_lightFor_c63 {z0 : Int32} {u : gg_M}  {G : gg_T} {Q : Int32 → gg_M → Prop} (hG : gg_Cl none cX11_lightFor 1 RX11 (some .int) 1 (gg_eI Q) G)  (h : w_X11_lightFor_c63 z0 u  Q)   : G 63 [none] [.int z0] u := by
  unfold w_X11_lightFor_c63 at h
  exact gg_iret hG dX11_lightFor_63 rfl rfl ⟨_, rfl, h⟩
def w_X11_lightFor (a0 : Int32) (u : gg_M)  (Q : Int32 → gg_M → Prop) : Prop :=
  (4 ≤ a0 →
   (¬ a0 = 4 →
    (¬ a0 = 5 →
     (¬ a0 = 6 →
      (¬ a0 = 7 →
       (¬ a0 = 8 →
        w_X11_lightFor_c63 15 u Q) ∧
       (a0 = 8 →
        w_X11_lightFor_c63 12 u Q)) ∧
      (a0 = 7 →
       w_X11_lightFor_c63 2 u Q)) ∧
     (a0 = 6 →
      w_X11_lightFor_c63 6 u Q)) ∧
    (a0 = 5 →
     w_X11_lightFor_c63 8 u Q)) ∧
   (a0 = 4 →
    w_X11_lightFor_c63 10 u Q)) ∧
  (¬ 4 ≤ a0 →
   w_X11_lightFor_c63 1 u Q)
set_option maxRecDepth 10000 in
theorem m_X11_lightFor {a0 : Int32} {u : gg_M}  {G : gg_T} {Q : Int32 → gg_M → Prop} (hG : gg_Cl none cX11_lightFor 1 RX11 (some .int) 1 (gg_eI Q) G)  (h : w_X11_lightFor a0 u  Q)   : G 0 [some (.int a0)] [] u := by
  unfold w_X11_lightFor at h
  refine gg_iload_n hG dX11_lightFor_0 rfl rfl ?_
  refine gg_iconst (v := 4) hG dX11_lightFor_1 (by decide) ?_
  refine gg_ic_ge (tgt := 9) hG dX11_lightFor_2 (by decide) (fun c1 => ?_) (fun c1 => ?_)
  · replace h := h.1 c1
    refine gg_iload_n hG dX11_lightFor_9 rfl rfl ?_
    refine gg_iconst (v := 4) hG dX11_lightFor_10 (by decide) ?_
    refine gg_ic_ne (tgt := 19) hG dX11_lightFor_11 (by decide) (fun c2 => ?_) (fun c2 => ?_)
    · replace h := h.1 c2
      refine gg_iload_n hG dX11_lightFor_19 rfl rfl ?_
      refine gg_iconst (v := 5) hG dX11_lightFor_20 (by decide) ?_
      refine gg_ic_ne (tgt := 29) hG dX11_lightFor_21 (by decide) (fun c3 => ?_) (fun c3 => ?_)
      · replace h := h.1 c3
        refine gg_iload_n hG dX11_lightFor_29 rfl rfl ?_
        refine gg_bipush (v := 6) hG dX11_lightFor_30 (by decide) ?_
        refine gg_ic_ne (tgt := 40) hG dX11_lightFor_32 (by decide) (fun c4 => ?_) (fun c4 => ?_)
        · replace h := h.1 c4
          refine gg_iload_n hG dX11_lightFor_40 rfl rfl ?_
          refine gg_bipush (v := 7) hG dX11_lightFor_41 (by decide) ?_
          refine gg_ic_ne (tgt := 50) hG dX11_lightFor_43 (by decide) (fun c5 => ?_) (fun c5 => ?_)
          · replace h := h.1 c5
            refine gg_iload_n hG dX11_lightFor_50 rfl rfl ?_
            refine gg_bipush (v := 8) hG dX11_lightFor_51 (by decide) ?_
            refine gg_ic_ne (tgt := 61) hG dX11_lightFor_53 (by decide) (fun c6 => ?_) (fun c6 => ?_)
            · replace h := h.1 c6
              refine gg_bipush (v := 15) hG dX11_lightFor_61 (by decide) ?_
              refine gg_mk hG [false] rfl ?_
              exact m_X11_lightFor_c63 hG h
            · replace h := h.2 c6
              refine gg_bipush (v := 12) hG dX11_lightFor_56 (by decide) ?_
              refine gg_goto (tgt := 63) hG dX11_lightFor_58 (by decide) ?_
              refine gg_mk hG [false] rfl ?_
              exact m_X11_lightFor_c63 hG h
          · replace h := h.2 c5
            refine gg_iconst (v := 2) hG dX11_lightFor_46 (by decide) ?_
            refine gg_goto (tgt := 63) hG dX11_lightFor_47 (by decide) ?_
            refine gg_mk hG [false] rfl ?_
            exact m_X11_lightFor_c63 hG h
        · replace h := h.2 c4
          refine gg_bipush (v := 6) hG dX11_lightFor_35 (by decide) ?_
          refine gg_goto (tgt := 63) hG dX11_lightFor_37 (by decide) ?_
          refine gg_mk hG [false] rfl ?_
          exact m_X11_lightFor_c63 hG h
      · replace h := h.2 c3
        refine gg_bipush (v := 8) hG dX11_lightFor_24 (by decide) ?_
        refine gg_goto (tgt := 63) hG dX11_lightFor_26 (by decide) ?_
        refine gg_mk hG [false] rfl ?_
        exact m_X11_lightFor_c63 hG h
    · replace h := h.2 c2
      refine gg_bipush (v := 10) hG dX11_lightFor_14 (by decide) ?_
      refine gg_goto (tgt := 63) hG dX11_lightFor_16 (by decide) ?_
      refine gg_mk hG [false] rfl ?_
      exact m_X11_lightFor_c63 hG h
  · replace h := h.2 c1
    refine gg_iconst (v := 1) hG dX11_lightFor_5 (by decide) ?_
    refine gg_goto (tgt := 63) hG dX11_lightFor_6 (by decide) ?_
    refine gg_mk hG [false] rfl ?_
    exact m_X11_lightFor_c63 hG h
theorem mt_X11_lightFor {a0 : Int32}  {u : gg_M} {Q : Int32 → gg_M → Prop} (h : w_X11_lightFor a0 u Q) : gg_Mt 1 yX11_lightFor cX11_lightFor 1 (some .int) [.int a0] u (gg_eI Q) :=
  gg_intro (own := RX11) (by decide +kernel) rfl rfl (Nat.le_of_ble_eq_true rfl) (fun G hG => m_X11_lightFor hG  h)
/-! X11_turns -/
def w_X11_turns_c426 (a12 : Int32) (z1 : Int32) (z2 : Int32) (u : gg_M)  (Q : Int32 → gg_M → Prop) : Prop :=
  vp_in z1 1024 ∧
  ∀ u2 : gg_M, u2 = gg_wI u 51 z1.toNatClampNeg z2 →
  Q a12 u2
set_option maxRecDepth 10000 in
theorem m_X11_turns_c426 {a12 : Int32} {z1 : Int32} {z2 : Int32} {u : gg_M}  {G : gg_T} {Q : Int32 → gg_M → Prop} (hG : gg_Cl none cX11_turns 15 RX11 (some .int) 2 (gg_eI Q) G)  (h : w_X11_turns_c426 a12 z1 z2 u  Q)   : G 426 [none, none, none, none, none, none, none, none, none, none, none, none, some (.int a12), none, none] [.int z2, .int z1, .ref 51] u := by
  unfold w_X11_turns_c426 at h
  obtain ⟨h1, h⟩ := h
  refine gg_iast (j := z1.toNatClampNeg) hG dX11_turns_426 (by decide) rfl h1 rfl ?_
  refine gg_nu (fun u2 eu2 => ?_)
  replace h := h u2 eu2
  refine gg_iload hG dX11_turns_427 rfl ?_
  exact gg_iret hG dX11_turns_429 rfl rfl ⟨_, rfl, h⟩
def w_X11_turns_c402 (a1 : Int32) (a12 : Int32) (z0 : Int32) (z1 : Int32) (u : gg_M)  (Q : Int32 → gg_M → Prop) : Prop :=
  ∀ v3 : Int32, v3 = (z0 + z1) →
  (v3 ≤ 20 →
   w_X11_turns_c426 a12 (a1 + 4) v3 u Q) ∧
  (¬ v3 ≤ 20 →
   w_X11_turns_c426 a12 (a1 + 4) 20 u Q)
set_option maxRecDepth 10000 in
theorem m_X11_turns_c402 {a1 : Int32} {a12 : Int32} {z0 : Int32} {z1 : Int32} {u : gg_M}  {G : gg_T} {Q : Int32 → gg_M → Prop} (hG : gg_Cl none cX11_turns 15 RX11 (some .int) 2 (gg_eI Q) G)  (h : w_X11_turns_c402 a1 a12 z0 z1 u  Q)   : G 402 [some (.ref 1), some (.int a1), none, none, none, none, none, none, none, none, none, none, some (.int a12), none, none] [.int z1, .int z0] u := by
  unfold w_X11_turns_c402 at h
  refine gg_iadd hG dX11_turns_402 ?_
  refine gg_ni (fun v3 e3 => ?_)
  replace h := h v3 e3
  refine gg_istore (L1 := [some (.ref 1), some (.int a1), none, none, none, none, none, none, none, none, none, none, some (.int a12), none, some (.int v3)]) hG dX11_turns_403 (by decide) rfl ?_
  refine gg_aload_n hG dX11_turns_405 rfl rfl ?_
  refine gg_get (v := .ref 51) hG dX11_turns_406 (by decide) rfl fl_RX11_22 rfl ?_
  refine gg_iload_n hG dX11_turns_409 rfl rfl ?_
  refine gg_iconst (v := 4) hG dX11_turns_410 (by decide) ?_
  refine gg_iadd hG dX11_turns_411 ?_
  refine gg_iload hG dX11_turns_412 rfl ?_
  refine gg_bipush (v := 20) hG dX11_turns_414 (by decide) ?_
  refine gg_ic_le (tgt := 424) hG dX11_turns_416 (by decide) (fun c4 => ?_) (fun c4 => ?_)
  · replace h := h.1 c4
    refine gg_iload hG dX11_turns_424 rfl ?_
    refine gg_mk hG [false, false, false, false, false, false, false, false, false, false, false, false, true, false, false] rfl ?_
    exact m_X11_turns_c426 hG h
  · replace h := h.2 c4
    refine gg_bipush (v := 20) hG dX11_turns_419 (by decide) ?_
    refine gg_goto (tgt := 426) hG dX11_turns_421 (by decide) ?_
    refine gg_mk hG [false, false, false, false, false, false, false, false, false, false, false, false, true, false, false] rfl ?_
    exact m_X11_turns_c426 hG h
def w_X11_turns_c383 (a1 : Int32) (a12 : Int32) (z1 : Int32) (z2 : Int32) (u : gg_M)  (Q : Int32 → gg_M → Prop) : Prop :=
  vp_in z1 1024 ∧
  ∀ u6 : gg_M, u6 = gg_wI u 51 z1.toNatClampNeg z2 →
  vp_in (a1 + 4) 1024 ∧
  (¬ a12 = 0 →
   w_X11_turns_c402 a1 a12 (u6.1 51 ((a1 + 4).toNatClampNeg)) 2 u6 Q) ∧
  (a12 = 0 →
   w_X11_turns_c402 a1 a12 (u6.1 51 ((a1 + 4).toNatClampNeg)) 1 u6 Q)
set_option maxRecDepth 10000 in
theorem m_X11_turns_c383 {a1 : Int32} {a12 : Int32} {z1 : Int32} {z2 : Int32} {u : gg_M}  {G : gg_T} {Q : Int32 → gg_M → Prop} (hG : gg_Cl none cX11_turns 15 RX11 (some .int) 2 (gg_eI Q) G)  (h : w_X11_turns_c383 a1 a12 z1 z2 u  Q)   : G 383 [some (.ref 1), some (.int a1), none, none, none, none, none, none, none, none, none, none, some (.int a12), none, none] [.int z2, .int z1, .ref 51] u := by
  unfold w_X11_turns_c383 at h
  obtain ⟨h5, h⟩ := h
  refine gg_iast (j := z1.toNatClampNeg) hG dX11_turns_383 (by decide) rfl h5 rfl ?_
  refine gg_nu (fun u6 eu6 => ?_)
  replace h := h u6 eu6
  refine gg_aload_n hG dX11_turns_384 rfl rfl ?_
  refine gg_get (v := .ref 51) hG dX11_turns_385 (by decide) rfl fl_RX11_22 rfl ?_
  refine gg_iload_n hG dX11_turns_388 rfl rfl ?_
  refine gg_iconst (v := 4) hG dX11_turns_389 (by decide) ?_
  refine gg_iadd hG dX11_turns_390 ?_
  obtain ⟨h7, h⟩ := h
  refine gg_iald (j := (a1 + 4).toNatClampNeg) hG dX11_turns_391 (by decide) rfl h7 rfl ?_
  refine gg_iload hG dX11_turns_392 rfl ?_
  refine gg_if_ne (tgt := 401) hG dX11_turns_394 (by decide) (fun c8 => ?_) (fun c8 => ?_)
  · replace h := h.1 c8
    refine gg_iconst (v := 2) hG dX11_turns_401 (by decide) ?_
    exact m_X11_turns_c402 hG h
  · replace h := h.2 c8
    refine gg_iconst (v := 1) hG dX11_turns_397 (by decide) ?_
    refine gg_goto (tgt := 402) hG dX11_turns_398 (by decide) ?_
    exact m_X11_turns_c402 hG h
def w_X11_turns_c359 (a1 : Int32) (a12 : Int32) (z0 : Int32) (z1 : Int32) (u : gg_M)  (Q : Int32 → gg_M → Prop) : Prop :=
  ∀ v9 : Int32, v9 = (z0 + z1) →
  (v9 ≤ 99 →
   w_X11_turns_c383 a1 a12 (a1 + 3) v9 u Q) ∧
  (¬ v9 ≤ 99 →
   w_X11_turns_c383 a1 a12 (a1 + 3) 99 u Q)
set_option maxRecDepth 10000 in
theorem m_X11_turns_c359 {a1 : Int32} {a12 : Int32} {z0 : Int32} {z1 : Int32} {u : gg_M}  {G : gg_T} {Q : Int32 → gg_M → Prop} (hG : gg_Cl none cX11_turns 15 RX11 (some .int) 2 (gg_eI Q) G)  (h : w_X11_turns_c359 a1 a12 z0 z1 u  Q)   : G 359 [some (.ref 1), some (.int a1), none, none, none, none, none, none, none, none, none, none, some (.int a12), none, none] [.int z1, .int z0] u := by
  unfold w_X11_turns_c359 at h
  refine gg_iadd hG dX11_turns_359 ?_
  refine gg_ni (fun v9 e9 => ?_)
  replace h := h v9 e9
  refine gg_istore (L1 := [some (.ref 1), some (.int a1), none, none, none, none, none, none, none, none, none, none, some (.int a12), some (.int v9), none]) hG dX11_turns_360 (by decide) rfl ?_
  refine gg_aload_n hG dX11_turns_362 rfl rfl ?_
  refine gg_get (v := .ref 51) hG dX11_turns_363 (by decide) rfl fl_RX11_22 rfl ?_
  refine gg_iload_n hG dX11_turns_366 rfl rfl ?_
  refine gg_iconst (v := 3) hG dX11_turns_367 (by decide) ?_
  refine gg_iadd hG dX11_turns_368 ?_
  refine gg_iload hG dX11_turns_369 rfl ?_
  refine gg_bipush (v := 99) hG dX11_turns_371 (by decide) ?_
  refine gg_ic_le (tgt := 381) hG dX11_turns_373 (by decide) (fun c10 => ?_) (fun c10 => ?_)
  · replace h := h.1 c10
    refine gg_iload hG dX11_turns_381 rfl ?_
    refine gg_mk hG [true, true, false, false, false, false, false, false, false, false, false, false, true, false, false] rfl ?_
    exact m_X11_turns_c383 hG h
  · replace h := h.2 c10
    refine gg_bipush (v := 99) hG dX11_turns_376 (by decide) ?_
    refine gg_goto (tgt := 383) hG dX11_turns_378 (by decide) ?_
    refine gg_mk hG [true, true, false, false, false, false, false, false, false, false, false, false, true, false, false] rfl ?_
    exact m_X11_turns_c383 hG h
def w_X11_turns_c317 (a1 : Int32) (a8 : Int32) (a12 : Int32) (u : gg_M)  (Q : Int32 → gg_M → Prop) : Prop :=
  (¬ a12 = 2 →
   vp_in (a1 + 3) 1024 ∧
   (a8 ≤ 9 →
    w_X11_turns_c359 a1 a12 (u.1 51 ((a1 + 3).toNatClampNeg)) 0 u Q) ∧
   (¬ a8 ≤ 9 →
    w_X11_turns_c359 a1 a12 (u.1 51 ((a1 + 3).toNatClampNeg)) (a8 - 9) u Q)) ∧
  (a12 = 2 →
   vp_in (a1 + 7) 1024 ∧
   ∀ u15 : gg_M, u15 = gg_wI u 51 ((a1 + 7).toNatClampNeg) 1 →
   Q 2 u15)
set_option maxRecDepth 10000 in
theorem m_X11_turns_c317 {a1 : Int32} {a8 : Int32} {a12 : Int32} {u : gg_M}  {G : gg_T} {Q : Int32 → gg_M → Prop} (hG : gg_Cl none cX11_turns 15 RX11 (some .int) 2 (gg_eI Q) G)  (h : w_X11_turns_c317 a1 a8 a12 u  Q)   : G 317 [some (.ref 1), some (.int a1), none, none, none, none, none, none, some (.int a8), none, none, none, some (.int a12), none, none] [] u := by
  unfold w_X11_turns_c317 at h
  refine gg_iload hG dX11_turns_317 rfl ?_
  refine gg_iconst (v := 2) hG dX11_turns_319 (by decide) ?_
  refine gg_ic_ne (tgt := 335) hG dX11_turns_320 (by decide) (fun c11 => ?_) (fun c11 => ?_)
  · replace h := h.1 c11
    refine gg_aload_n hG dX11_turns_335 rfl rfl ?_
    refine gg_get (v := .ref 51) hG dX11_turns_336 (by decide) rfl fl_RX11_22 rfl ?_
    refine gg_iload_n hG dX11_turns_339 rfl rfl ?_
    refine gg_iconst (v := 3) hG dX11_turns_340 (by decide) ?_
    refine gg_iadd hG dX11_turns_341 ?_
    obtain ⟨h12, h⟩ := h
    refine gg_iald (j := (a1 + 3).toNatClampNeg) hG dX11_turns_342 (by decide) rfl h12 rfl ?_
    refine gg_iload hG dX11_turns_343 rfl ?_
    refine gg_bipush (v := 9) hG dX11_turns_345 (by decide) ?_
    refine gg_ic_le (tgt := 358) hG dX11_turns_347 (by decide) (fun c13 => ?_) (fun c13 => ?_)
    · replace h := h.1 c13
      refine gg_iconst (v := 0) hG dX11_turns_358 (by decide) ?_
      refine gg_mk hG [true, true, false, false, false, false, false, false, false, false, false, false, true, false, false] rfl ?_
      exact m_X11_turns_c359 hG h
    · replace h := h.2 c13
      refine gg_iload hG dX11_turns_350 rfl ?_
      refine gg_bipush (v := 9) hG dX11_turns_352 (by decide) ?_
      refine gg_isub hG dX11_turns_354 ?_
      refine gg_goto (tgt := 359) hG dX11_turns_355 (by decide) ?_
      refine gg_mk hG [true, true, false, false, false, false, false, false, false, false, false, false, true, false, false] rfl ?_
      exact m_X11_turns_c359 hG h
  · replace h := h.2 c11
    refine gg_aload_n hG dX11_turns_323 rfl rfl ?_
    refine gg_get (v := .ref 51) hG dX11_turns_324 (by decide) rfl fl_RX11_22 rfl ?_
    refine gg_iload_n hG dX11_turns_327 rfl rfl ?_
    refine gg_bipush (v := 7) hG dX11_turns_328 (by decide) ?_
    refine gg_iadd hG dX11_turns_330 ?_
    refine gg_iconst (v := 1) hG dX11_turns_331 (by decide) ?_
    obtain ⟨h14, h⟩ := h
    refine gg_iast (j := (a1 + 7).toNatClampNeg) hG dX11_turns_332 (by decide) rfl h14 rfl ?_
    refine gg_nu (fun u15 eu15 => ?_)
    replace h := h u15 eu15
    refine gg_iconst (v := 2) hG dX11_turns_333 (by decide) ?_
    exact gg_iret hG dX11_turns_334 rfl rfl ⟨_, rfl, h⟩
def w_X11_turns_c291 (a1 : Int32) (a8 : Int32) (a9 : Int32) (a10 : Int32) (a12 : Int32) (u : gg_M)  (Q : Int32 → gg_M → Prop) : Prop :=
  w_X11_in a8 3 10 u (fun v17 u16 =>
  (v17 = 0 →
   w_X11_turns_c317 a1 a8 a12 u16 Q) ∧
  (¬ v17 = 0 →
   (a9 < 3 →
    w_X11_turns_c317 a1 a8 a12 u16 Q) ∧
   (¬ a9 < 3 →
    (a10 < 4 →
     w_X11_turns_c317 a1 a8 a12 u16 Q) ∧
    (¬ a10 < 4 →
     w_X11_turns_c317 a1 a8 1 u16 Q))))
set_option maxRecDepth 10000 in
theorem m_X11_turns_c291 {a1 : Int32} {a8 : Int32} {a9 : Int32} {a10 : Int32} {a12 : Int32} {u : gg_M}  {G : gg_T} {Q : Int32 → gg_M → Prop} (hG : gg_Cl none cX11_turns 15 RX11 (some .int) 2 (gg_eI Q) G)  (h : w_X11_turns_c291 a1 a8 a9 a10 a12 u  Q)   : G 291 [some (.ref 1), some (.int a1), none, none, none, none, none, none, some (.int a8), some (.int a9), some (.int a10), none, some (.int a12), none, none] [] u := by
  unfold w_X11_turns_c291 at h
  refine gg_iload hG dX11_turns_291 rfl ?_
  refine gg_iconst (v := 3) hG dX11_turns_293 (by decide) ?_
  refine gg_bipush (v := 10) hG dX11_turns_294 (by decide) ?_
  refine gg_xs (As := [.int a8, .int 3, .int 10]) (st := []) hG dX11_turns_296 ml_RX11_68 Y_X11_in YS_X11_in (mt_X11_in h) rfl (by decide) (Nat.le_of_ble_eq_true rfl) rfl (gg_ki (fun v17 u16 h => ?_))
  refine gg_if_eq (tgt := 317) hG dX11_turns_299 (by decide) (fun c18 => ?_) (fun c18 => ?_)
  · replace h := h.1 c18
    refine gg_mk hG [true, true, false, false, false, false, false, false, true, false, false, false, true, false, false] rfl ?_
    exact m_X11_turns_c317 hG h
  · replace h := h.2 c18
    refine gg_iload hG dX11_turns_302 rfl ?_
    refine gg_iconst (v := 3) hG dX11_turns_304 (by decide) ?_
    refine gg_ic_lt (tgt := 317) hG dX11_turns_305 (by decide) (fun c19 => ?_) (fun c19 => ?_)
    · replace h := h.1 c19
      refine gg_mk hG [true, true, false, false, false, false, false, false, true, false, false, false, true, false, false] rfl ?_
      exact m_X11_turns_c317 hG h
    · replace h := h.2 c19
      refine gg_iload hG dX11_turns_308 rfl ?_
      refine gg_iconst (v := 4) hG dX11_turns_310 (by decide) ?_
      refine gg_ic_lt (tgt := 317) hG dX11_turns_311 (by decide) (fun c20 => ?_) (fun c20 => ?_)
      · replace h := h.1 c20
        refine gg_mk hG [true, true, false, false, false, false, false, false, true, false, false, false, true, false, false] rfl ?_
        exact m_X11_turns_c317 hG h
      · replace h := h.2 c20
        refine gg_iconst (v := 1) hG dX11_turns_314 (by decide) ?_
        refine gg_istore (L1 := [some (.ref 1), some (.int a1), none, none, none, none, none, none, some (.int a8), some (.int a9), some (.int a10), none, some (.int 1), none, none]) hG dX11_turns_315 (by decide) rfl ?_
        refine gg_mk hG [true, true, false, false, false, false, false, false, true, false, false, false, true, false, false] rfl ?_
        exact m_X11_turns_c317 hG h
def w_X11_turns_c286 (a1 : Int32) (a8 : Int32) (z0 : Int32) (u : gg_M)  (Q : Int32 → gg_M → Prop) : Prop :=
  w_X11_turns_c317 a1 a8 z0 u Q
set_option maxRecDepth 10000 in
theorem m_X11_turns_c286 {a1 : Int32} {a8 : Int32} {z0 : Int32} {u : gg_M}  {G : gg_T} {Q : Int32 → gg_M → Prop} (hG : gg_Cl none cX11_turns 15 RX11 (some .int) 2 (gg_eI Q) G)  (h : w_X11_turns_c286 a1 a8 z0 u  Q)   : G 286 [some (.ref 1), some (.int a1), none, none, none, none, none, none, some (.int a8), none, none, none, none, none, none] [.int z0] u := by
  unfold w_X11_turns_c286 at h
  refine gg_istore (L1 := [some (.ref 1), some (.int a1), none, none, none, none, none, none, some (.int a8), none, none, none, some (.int z0), none, none]) hG dX11_turns_286 (by decide) rfl ?_
  refine gg_goto (tgt := 317) hG dX11_turns_288 (by decide) ?_
  exact m_X11_turns_c317 hG h
def w_X11_turns_c234 (a1 : Int32) (a8 : Int32) (a9 : Int32) (a10 : Int32) (z0 : Int32) (z1 : Int32) (u : gg_M)  (Q : Int32 → gg_M → Prop) : Prop :=
  ∀ v21 : Int32, v21 = (z0 - z1) →
  w_X11_in a8 4 9 u (fun v23 u22 =>
  (v23 = 0 →
   w_X11_turns_c291 a1 a8 a9 a10 0 u22 Q) ∧
  (¬ v23 = 0 →
   (a9 < 4 →
    w_X11_turns_c291 a1 a8 a9 a10 0 u22 Q) ∧
   (¬ a9 < 4 →
    (a10 < 5 →
     w_X11_turns_c291 a1 a8 a9 a10 0 u22 Q) ∧
    (¬ a10 < 5 →
     (v21 ≤ 13 →
      (7 ≤ v21 →
       w_X11_turns_c286 a1 a8 2 u22 Q) ∧
      (¬ 7 ≤ v21 →
       w_X11_turns_c286 a1 a8 1 u22 Q)) ∧
     (¬ v21 ≤ 13 →
      w_X11_turns_c286 a1 a8 3 u22 Q)))))
set_option maxRecDepth 10000 in
theorem m_X11_turns_c234 {a1 : Int32} {a8 : Int32} {a9 : Int32} {a10 : Int32} {z0 : Int32} {z1 : Int32} {u : gg_M}  {G : gg_T} {Q : Int32 → gg_M → Prop} (hG : gg_Cl none cX11_turns 15 RX11 (some .int) 2 (gg_eI Q) G)  (h : w_X11_turns_c234 a1 a8 a9 a10 z0 z1 u  Q)   : G 234 [some (.ref 1), some (.int a1), none, none, none, none, none, none, some (.int a8), some (.int a9), some (.int a10), none, none, none, none] [.int z1, .int z0] u := by
  unfold w_X11_turns_c234 at h
  refine gg_isub hG dX11_turns_234 ?_
  refine gg_ni (fun v21 e21 => ?_)
  replace h := h v21 e21
  refine gg_istore (L1 := [some (.ref 1), some (.int a1), none, none, none, none, none, none, some (.int a8), some (.int a9), some (.int a10), some (.int v21), none, none, none]) hG dX11_turns_235 (by decide) rfl ?_
  refine gg_iconst (v := 0) hG dX11_turns_237 (by decide) ?_
  refine gg_istore (L1 := [some (.ref 1), some (.int a1), none, none, none, none, none, none, some (.int a8), some (.int a9), some (.int a10), some (.int v21), some (.int 0), none, none]) hG dX11_turns_238 (by decide) rfl ?_
  refine gg_iload hG dX11_turns_240 rfl ?_
  refine gg_iconst (v := 4) hG dX11_turns_242 (by decide) ?_
  refine gg_bipush (v := 9) hG dX11_turns_243 (by decide) ?_
  refine gg_xs (As := [.int a8, .int 4, .int 9]) (st := []) hG dX11_turns_245 ml_RX11_68 Y_X11_in YS_X11_in (mt_X11_in h) rfl (by decide) (Nat.le_of_ble_eq_true rfl) rfl (gg_ki (fun v23 u22 h => ?_))
  refine gg_if_eq (tgt := 291) hG dX11_turns_248 (by decide) (fun c24 => ?_) (fun c24 => ?_)
  · replace h := h.1 c24
    refine gg_mk hG [true, true, false, false, false, false, false, false, true, true, true, false, true, false, false] rfl ?_
    exact m_X11_turns_c291 hG h
  · replace h := h.2 c24
    refine gg_iload hG dX11_turns_251 rfl ?_
    refine gg_iconst (v := 4) hG dX11_turns_253 (by decide) ?_
    refine gg_ic_lt (tgt := 291) hG dX11_turns_254 (by decide) (fun c25 => ?_) (fun c25 => ?_)
    · replace h := h.1 c25
      refine gg_mk hG [true, true, false, false, false, false, false, false, true, true, true, false, true, false, false] rfl ?_
      exact m_X11_turns_c291 hG h
    · replace h := h.2 c25
      refine gg_iload hG dX11_turns_257 rfl ?_
      refine gg_iconst (v := 5) hG dX11_turns_259 (by decide) ?_
      refine gg_ic_lt (tgt := 291) hG dX11_turns_260 (by decide) (fun c26 => ?_) (fun c26 => ?_)
      · replace h := h.1 c26
        refine gg_mk hG [true, true, false, false, false, false, false, false, true, true, true, false, true, false, false] rfl ?_
        exact m_X11_turns_c291 hG h
      · replace h := h.2 c26
        refine gg_iload hG dX11_turns_263 rfl ?_
        refine gg_bipush (v := 13) hG dX11_turns_265 (by decide) ?_
        refine gg_ic_le (tgt := 274) hG dX11_turns_267 (by decide) (fun c27 => ?_) (fun c27 => ?_)
        · replace h := h.1 c27
          refine gg_iload hG dX11_turns_274 rfl ?_
          refine gg_bipush (v := 7) hG dX11_turns_276 (by decide) ?_
          refine gg_ic_ge (tgt := 285) hG dX11_turns_278 (by decide) (fun c28 => ?_) (fun c28 => ?_)
          · replace h := h.1 c28
            refine gg_iconst (v := 2) hG dX11_turns_285 (by decide) ?_
            refine gg_mk hG [true, true, false, false, false, false, false, false, true, false, false, false, false, false, false] rfl ?_
            exact m_X11_turns_c286 hG h
          · replace h := h.2 c28
            refine gg_iconst (v := 1) hG dX11_turns_281 (by decide) ?_
            refine gg_goto (tgt := 286) hG dX11_turns_282 (by decide) ?_
            refine gg_mk hG [true, true, false, false, false, false, false, false, true, false, false, false, false, false, false] rfl ?_
            exact m_X11_turns_c286 hG h
        · replace h := h.2 c27
          refine gg_iconst (v := 3) hG dX11_turns_270 (by decide) ?_
          refine gg_goto (tgt := 286) hG dX11_turns_271 (by decide) ?_
          refine gg_mk hG [true, true, false, false, false, false, false, false, true, false, false, false, false, false, false] rfl ?_
          exact m_X11_turns_c286 hG h
def w_X11_turns_c199 (a1 : Int32) (a3 : Int32) (a8 : Int32) (a9 : Int32) (z0 : Int32) (z1 : Int32) (u : gg_M)  (Q : Int32 → gg_M → Prop) : Prop :=
  vp_in (a1 + 4) 1024 ∧
  ∀ v30 : Int32, v30 = ((z0 - z1) + ((u.1 51 ((a1 + 4).toNatClampNeg)) / 6)) →
  w_X11_isIn a3 3 u (fun v32 u31 =>
  (v32 = 0 →
   w_X11_turns_c234 a1 a8 a9 v30 (u.1 49 2) 0 u31 Q) ∧
  (¬ v32 = 0 →
   w_X11_turns_c234 a1 a8 a9 v30 (u.1 49 2) 6 u31 Q))
set_option maxRecDepth 10000 in
theorem m_X11_turns_c199 {a1 : Int32} {a3 : Int32} {a8 : Int32} {a9 : Int32} {z0 : Int32} {z1 : Int32} {u : gg_M}  {G : gg_T} {Q : Int32 → gg_M → Prop} (hG : gg_Cl none cX11_turns 15 RX11 (some .int) 2 (gg_eI Q) G)  (h : w_X11_turns_c199 a1 a3 a8 a9 z0 z1 u  Q)   : G 199 [some (.ref 1), some (.int a1), none, some (.int a3), none, none, none, none, some (.int a8), some (.int a9), none, none, none, none, none] [.int z1, .int z0] u := by
  unfold w_X11_turns_c199 at h
  refine gg_isub hG dX11_turns_199 ?_
  refine gg_aload_n hG dX11_turns_200 rfl rfl ?_
  refine gg_get (v := .ref 51) hG dX11_turns_201 (by decide) rfl fl_RX11_22 rfl ?_
  refine gg_iload_n hG dX11_turns_204 rfl rfl ?_
  refine gg_iconst (v := 4) hG dX11_turns_205 (by decide) ?_
  refine gg_iadd hG dX11_turns_206 ?_
  obtain ⟨h29, h⟩ := h
  refine gg_iald (j := (a1 + 4).toNatClampNeg) hG dX11_turns_207 (by decide) rfl h29 rfl ?_
  refine gg_bipush (v := 6) hG dX11_turns_208 (by decide) ?_
  refine gg_idiv hG dX11_turns_210 (by decide) ?_
  refine gg_iadd hG dX11_turns_211 ?_
  refine gg_ni (fun v30 e30 => ?_)
  replace h := h v30 e30
  refine gg_istore (L1 := [some (.ref 1), some (.int a1), none, some (.int a3), none, none, none, none, some (.int a8), some (.int a9), some (.int v30), none, none, none, none]) hG dX11_turns_212 (by decide) rfl ?_
  refine gg_aload_n hG dX11_turns_214 rfl rfl ?_
  refine gg_get (v := .ref 49) hG dX11_turns_215 (by decide) rfl fl_RX11_16 rfl ?_
  refine gg_iconst (v := 2) hG dX11_turns_218 (by decide) ?_
  refine gg_iald (j := 2) hG dX11_turns_219 (by decide) rfl (gg_vin (by decide +kernel)) (by decide) ?_
  refine gg_iload_n hG dX11_turns_220 rfl rfl ?_
  refine gg_iconst (v := 3) hG dX11_turns_221 (by decide) ?_
  refine gg_xs (As := [.int a3, .int 3]) (st := [.int (u.1 49 2)]) hG dX11_turns_222 ml_RX11_119 Y_X11_isIn YS_X11_isIn (mt_X11_isIn h) rfl (by decide) (Nat.le_of_ble_eq_true rfl) rfl (gg_ki (fun v32 u31 h => ?_))
  refine gg_if_eq (tgt := 233) hG dX11_turns_225 (by decide) (fun c33 => ?_) (fun c33 => ?_)
  · replace h := h.1 c33
    refine gg_iconst (v := 0) hG dX11_turns_233 (by decide) ?_
    refine gg_mk hG [true, true, false, false, false, false, false, false, true, true, true, false, false, false, false] rfl ?_
    exact m_X11_turns_c234 hG h
  · replace h := h.2 c33
    refine gg_bipush (v := 6) hG dX11_turns_228 (by decide) ?_
    refine gg_goto (tgt := 234) hG dX11_turns_230 (by decide) ?_
    refine gg_mk hG [true, true, false, false, false, false, false, false, true, true, true, false, false, false, false] rfl ?_
    exact m_X11_turns_c234 hG h
def w_X11_turns_c156 (a1 : Int32) (a3 : Int32) (a8 : Int32) (z0 : Int32) (z1 : Int32) (u : gg_M)  (Q : Int32 → gg_M → Prop) : Prop :=
  vp_in a1 1024 ∧
  vp_in (a1 + 3) 1024 ∧
  ∀ v36 : Int32, v36 = (((z0 - z1) + ((u.1 51 a1.toNatClampNeg) / 8)) - ((u.1 51 ((a1 + 3).toNatClampNeg)) / 3)) →
  w_X11_isIn a3 0 u (fun v38 u37 =>
  (v38 = 0 →
   w_X11_turns_c199 a1 a3 a8 v36 (u.1 49 0) 0 u37 Q) ∧
  (¬ v38 = 0 →
   w_X11_turns_c199 a1 a3 a8 v36 (u.1 49 0) 4 u37 Q))
set_option maxRecDepth 10000 in
theorem m_X11_turns_c156 {a1 : Int32} {a3 : Int32} {a8 : Int32} {z0 : Int32} {z1 : Int32} {u : gg_M}  {G : gg_T} {Q : Int32 → gg_M → Prop} (hG : gg_Cl none cX11_turns 15 RX11 (some .int) 2 (gg_eI Q) G)  (h : w_X11_turns_c156 a1 a3 a8 z0 z1 u  Q)   : G 156 [some (.ref 1), some (.int a1), none, some (.int a3), none, none, none, none, some (.int a8), none, none, none, none, none, none] [.int z1, .int z0] u := by
  unfold w_X11_turns_c156 at h
  refine gg_isub hG dX11_turns_156 ?_
  refine gg_aload_n hG dX11_turns_157 rfl rfl ?_
  refine gg_get (v := .ref 51) hG dX11_turns_158 (by decide) rfl fl_RX11_22 rfl ?_
  refine gg_iload_n hG dX11_turns_161 rfl rfl ?_
  obtain ⟨h34, h⟩ := h
  refine gg_iald (j := a1.toNatClampNeg) hG dX11_turns_162 (by decide) rfl h34 rfl ?_
  refine gg_bipush (v := 8) hG dX11_turns_163 (by decide) ?_
  refine gg_idiv hG dX11_turns_165 (by decide) ?_
  refine gg_iadd hG dX11_turns_166 ?_
  refine gg_aload_n hG dX11_turns_167 rfl rfl ?_
  refine gg_get (v := .ref 51) hG dX11_turns_168 (by decide) rfl fl_RX11_22 rfl ?_
  refine gg_iload_n hG dX11_turns_171 rfl rfl ?_
  refine gg_iconst (v := 3) hG dX11_turns_172 (by decide) ?_
  refine gg_iadd hG dX11_turns_173 ?_
  obtain ⟨h35, h⟩ := h
  refine gg_iald (j := (a1 + 3).toNatClampNeg) hG dX11_turns_174 (by decide) rfl h35 rfl ?_
  refine gg_iconst (v := 3) hG dX11_turns_175 (by decide) ?_
  refine gg_idiv hG dX11_turns_176 (by decide) ?_
  refine gg_isub hG dX11_turns_177 ?_
  refine gg_ni (fun v36 e36 => ?_)
  replace h := h v36 e36
  refine gg_istore (L1 := [some (.ref 1), some (.int a1), none, some (.int a3), none, none, none, none, some (.int a8), some (.int v36), none, none, none, none, none]) hG dX11_turns_178 (by decide) rfl ?_
  refine gg_aload_n hG dX11_turns_180 rfl rfl ?_
  refine gg_get (v := .ref 49) hG dX11_turns_181 (by decide) rfl fl_RX11_16 rfl ?_
  refine gg_iconst (v := 0) hG dX11_turns_184 (by decide) ?_
  refine gg_iald (j := 0) hG dX11_turns_185 (by decide) rfl (gg_vin (by decide +kernel)) (by decide) ?_
  refine gg_iload_n hG dX11_turns_186 rfl rfl ?_
  refine gg_iconst (v := 0) hG dX11_turns_187 (by decide) ?_
  refine gg_xs (As := [.int a3, .int 0]) (st := [.int (u.1 49 0)]) hG dX11_turns_188 ml_RX11_119 Y_X11_isIn YS_X11_isIn (mt_X11_isIn h) rfl (by decide) (Nat.le_of_ble_eq_true rfl) rfl (gg_ki (fun v38 u37 h => ?_))
  refine gg_if_eq (tgt := 198) hG dX11_turns_191 (by decide) (fun c39 => ?_) (fun c39 => ?_)
  · replace h := h.1 c39
    refine gg_iconst (v := 0) hG dX11_turns_198 (by decide) ?_
    exact m_X11_turns_c199 hG h
  · replace h := h.2 c39
    refine gg_iconst (v := 4) hG dX11_turns_194 (by decide) ?_
    refine gg_goto (tgt := 199) hG dX11_turns_195 (by decide) ?_
    exact m_X11_turns_c199 hG h
def w_X11_turns_c65 (a1 : Int32) (a3 : Int32) (z0 : Int32) (u : gg_M)  (Q : Int32 → gg_M → Prop) : Prop :=
  ∀ v40 : Int32, v40 = ((z0 * (u.1 49 4)) / 10) →
  vp_in (a1 + 2) 1024 ∧
  ∀ v42 : Int32, v42 = ((u.1 51 ((a1 + 2).toNatClampNeg)) / 4) →
  vp_in (a1 + 5) 1024 ∧
  ∀ v44 : Int32, v44 = (((z0 - v40) + v42) + (u.1 51 ((a1 + 5).toNatClampNeg))) →
  vp_in (a1 + 2) 1024 ∧
  vp_in (a1 + 2) 1024 ∧
  ∀ u47 : gg_M, u47 = gg_wI u 51 ((a1 + 2).toNatClampNeg) ((u.1 51 ((a1 + 2).toNatClampNeg)) + (v40 - v42)) →
  vp_in (a1 + 5) 1024 ∧
  ∀ u49 : gg_M, u49 = gg_wI u47 51 ((a1 + 5).toNatClampNeg) 0 →
  w_X11_isIn a3 1 u49 (fun v51 u50 =>
  (v51 = 0 →
   w_X11_turns_c156 a1 a3 v44 (u49.1 49 1) 0 u50 Q) ∧
  (¬ v51 = 0 →
   w_X11_turns_c156 a1 a3 v44 (u49.1 49 1) 5 u50 Q))
set_option maxRecDepth 10000 in
theorem m_X11_turns_c65 {a1 : Int32} {a3 : Int32} {z0 : Int32} {u : gg_M}  {G : gg_T} {Q : Int32 → gg_M → Prop} (hG : gg_Cl none cX11_turns 15 RX11 (some .int) 2 (gg_eI Q) G)  (h : w_X11_turns_c65 a1 a3 z0 u  Q)   : G 65 [some (.ref 1), some (.int a1), none, some (.int a3), none, none, none, none, none, none, none, none, none, none, none] [.int z0] u := by
  unfold w_X11_turns_c65 at h
  refine gg_istore (L1 := [some (.ref 1), some (.int a1), none, some (.int a3), none, some (.int z0), none, none, none, none, none, none, none, none, none]) hG dX11_turns_65 (by decide) rfl ?_
  refine gg_iload hG dX11_turns_67 rfl ?_
  refine gg_aload_n hG dX11_turns_69 rfl rfl ?_
  refine gg_get (v := .ref 49) hG dX11_turns_70 (by decide) rfl fl_RX11_16 rfl ?_
  refine gg_iconst (v := 4) hG dX11_turns_73 (by decide) ?_
  refine gg_iald (j := 4) hG dX11_turns_74 (by decide) rfl (gg_vin (by decide +kernel)) (by decide) ?_
  refine gg_imul hG dX11_turns_75 ?_
  refine gg_bipush (v := 10) hG dX11_turns_76 (by decide) ?_
  refine gg_idiv hG dX11_turns_78 (by decide) ?_
  refine gg_ni (fun v40 e40 => ?_)
  replace h := h v40 e40
  refine gg_istore (L1 := [some (.ref 1), some (.int a1), none, some (.int a3), none, some (.int z0), some (.int v40), none, none, none, none, none, none, none, none]) hG dX11_turns_79 (by decide) rfl ?_
  refine gg_aload_n hG dX11_turns_81 rfl rfl ?_
  refine gg_get (v := .ref 51) hG dX11_turns_82 (by decide) rfl fl_RX11_22 rfl ?_
  refine gg_iload_n hG dX11_turns_85 rfl rfl ?_
  refine gg_iconst (v := 2) hG dX11_turns_86 (by decide) ?_
  refine gg_iadd hG dX11_turns_87 ?_
  obtain ⟨h41, h⟩ := h
  refine gg_iald (j := (a1 + 2).toNatClampNeg) hG dX11_turns_88 (by decide) rfl h41 rfl ?_
  refine gg_iconst (v := 4) hG dX11_turns_89 (by decide) ?_
  refine gg_idiv hG dX11_turns_90 (by decide) ?_
  refine gg_ni (fun v42 e42 => ?_)
  replace h := h v42 e42
  refine gg_istore (L1 := [some (.ref 1), some (.int a1), none, some (.int a3), none, some (.int z0), some (.int v40), some (.int v42), none, none, none, none, none, none, none]) hG dX11_turns_91 (by decide) rfl ?_
  refine gg_iload hG dX11_turns_93 rfl ?_
  refine gg_iload hG dX11_turns_95 rfl ?_
  refine gg_isub hG dX11_turns_97 ?_
  refine gg_iload hG dX11_turns_98 rfl ?_
  refine gg_iadd hG dX11_turns_100 ?_
  refine gg_aload_n hG dX11_turns_101 rfl rfl ?_
  refine gg_get (v := .ref 51) hG dX11_turns_102 (by decide) rfl fl_RX11_22 rfl ?_
  refine gg_iload_n hG dX11_turns_105 rfl rfl ?_
  refine gg_iconst (v := 5) hG dX11_turns_106 (by decide) ?_
  refine gg_iadd hG dX11_turns_107 ?_
  obtain ⟨h43, h⟩ := h
  refine gg_iald (j := (a1 + 5).toNatClampNeg) hG dX11_turns_108 (by decide) rfl h43 rfl ?_
  refine gg_iadd hG dX11_turns_109 ?_
  refine gg_ni (fun v44 e44 => ?_)
  replace h := h v44 e44
  refine gg_istore (L1 := [some (.ref 1), some (.int a1), none, some (.int a3), none, some (.int z0), some (.int v40), some (.int v42), some (.int v44), none, none, none, none, none, none]) hG dX11_turns_110 (by decide) rfl ?_
  refine gg_aload_n hG dX11_turns_112 rfl rfl ?_
  refine gg_get (v := .ref 51) hG dX11_turns_113 (by decide) rfl fl_RX11_22 rfl ?_
  refine gg_iload_n hG dX11_turns_116 rfl rfl ?_
  refine gg_iconst (v := 2) hG dX11_turns_117 (by decide) ?_
  refine gg_iadd hG dX11_turns_118 ?_
  refine gg_dup2 hG dX11_turns_119 rfl rfl ?_
  obtain ⟨h45, h⟩ := h
  refine gg_iald (j := (a1 + 2).toNatClampNeg) hG dX11_turns_120 (by decide) rfl h45 rfl ?_
  refine gg_iload hG dX11_turns_121 rfl ?_
  refine gg_iload hG dX11_turns_123 rfl ?_
  refine gg_isub hG dX11_turns_125 ?_
  refine gg_iadd hG dX11_turns_126 ?_
  obtain ⟨h46, h⟩ := h
  refine gg_iast (j := (a1 + 2).toNatClampNeg) hG dX11_turns_127 (by decide) rfl h46 rfl ?_
  refine gg_nu (fun u47 eu47 => ?_)
  replace h := h u47 eu47
  refine gg_aload_n hG dX11_turns_128 rfl rfl ?_
  refine gg_get (v := .ref 51) hG dX11_turns_129 (by decide) rfl fl_RX11_22 rfl ?_
  refine gg_iload_n hG dX11_turns_132 rfl rfl ?_
  refine gg_iconst (v := 5) hG dX11_turns_133 (by decide) ?_
  refine gg_iadd hG dX11_turns_134 ?_
  refine gg_iconst (v := 0) hG dX11_turns_135 (by decide) ?_
  obtain ⟨h48, h⟩ := h
  refine gg_iast (j := (a1 + 5).toNatClampNeg) hG dX11_turns_136 (by decide) rfl h48 rfl ?_
  refine gg_nu (fun u49 eu49 => ?_)
  replace h := h u49 eu49
  refine gg_aload_n hG dX11_turns_137 rfl rfl ?_
  refine gg_get (v := .ref 49) hG dX11_turns_138 (by decide) rfl fl_RX11_16 rfl ?_
  refine gg_iconst (v := 1) hG dX11_turns_141 (by decide) ?_
  refine gg_iald (j := 1) hG dX11_turns_142 (by decide) rfl (gg_vin (by decide +kernel)) (by decide) ?_
  refine gg_iload_n hG dX11_turns_143 rfl rfl ?_
  refine gg_iconst (v := 1) hG dX11_turns_144 (by decide) ?_
  refine gg_xs (As := [.int a3, .int 1]) (st := [.int (u49.1 49 1)]) hG dX11_turns_145 ml_RX11_119 Y_X11_isIn YS_X11_isIn (mt_X11_isIn h) rfl (by decide) (Nat.le_of_ble_eq_true rfl) rfl (gg_ki (fun v51 u50 h => ?_))
  refine gg_if_eq (tgt := 155) hG dX11_turns_148 (by decide) (fun c52 => ?_) (fun c52 => ?_)
  · replace h := h.1 c52
    refine gg_iconst (v := 0) hG dX11_turns_155 (by decide) ?_
    refine gg_mk hG [true, true, false, true, false, false, false, false, true, false, false, false, false, false, false] rfl ?_
    exact m_X11_turns_c156 hG h
  · replace h := h.2 c52
    refine gg_iconst (v := 5) hG dX11_turns_151 (by decide) ?_
    refine gg_goto (tgt := 156) hG dX11_turns_152 (by decide) ?_
    refine gg_mk hG [true, true, false, true, false, false, false, false, true, false, false, false, false, false, false] rfl ?_
    exact m_X11_turns_c156 hG h
def w_X11_turns_c44 (a1 : Int32) (a2 : Int32) (a3 : Int32) (z0 : Int32) (u : gg_M)  (Q : Int32 → gg_M → Prop) : Prop :=
  (z0 = 0 →
   w_X11_turns_c65 a1 a3 ((u.1 49 3) + ((2 : Int32) * a2)) u Q) ∧
  (¬ z0 = 0 →
   w_X11_turns_c65 a1 a3 0 u Q)
set_option maxRecDepth 10000 in
theorem m_X11_turns_c44 {a1 : Int32} {a2 : Int32} {a3 : Int32} {z0 : Int32} {u : gg_M}  {G : gg_T} {Q : Int32 → gg_M → Prop} (hG : gg_Cl none cX11_turns 15 RX11 (some .int) 2 (gg_eI Q) G)  (h : w_X11_turns_c44 a1 a2 a3 z0 u  Q)   : G 44 [some (.ref 1), some (.int a1), some (.int a2), some (.int a3), none, none, none, none, none, none, none, none, none, none, none] [.int z0] u := by
  unfold w_X11_turns_c44 at h
  refine gg_istore (L1 := [some (.ref 1), some (.int a1), some (.int a2), some (.int a3), some (.int z0), none, none, none, none, none, none, none, none, none, none]) hG dX11_turns_44 (by decide) rfl ?_
  refine gg_iload hG dX11_turns_46 rfl ?_
  refine gg_if_eq (tgt := 55) hG dX11_turns_48 (by decide) (fun c53 => ?_) (fun c53 => ?_)
  · replace h := h.1 c53
    refine gg_aload_n hG dX11_turns_55 rfl rfl ?_
    refine gg_get (v := .ref 49) hG dX11_turns_56 (by decide) rfl fl_RX11_16 rfl ?_
    refine gg_iconst (v := 3) hG dX11_turns_59 (by decide) ?_
    refine gg_iald (j := 3) hG dX11_turns_60 (by decide) rfl (gg_vin (by decide +kernel)) (by decide) ?_
    refine gg_iconst (v := 2) hG dX11_turns_61 (by decide) ?_
    refine gg_iload_n hG dX11_turns_62 rfl rfl ?_
    refine gg_imul hG dX11_turns_63 ?_
    refine gg_iadd hG dX11_turns_64 ?_
    refine gg_mk hG [true, true, false, true, false, false, false, false, false, false, false, false, false, false, false] rfl ?_
    exact m_X11_turns_c65 hG h
  · replace h := h.2 c53
    refine gg_iconst (v := 0) hG dX11_turns_51 (by decide) ?_
    refine gg_goto (tgt := 65) hG dX11_turns_52 (by decide) ?_
    refine gg_mk hG [true, true, false, true, false, false, false, false, false, false, false, false, false, false, false] rfl ?_
    exact m_X11_turns_c65 hG h
def w_X11_turns_c43 (a1 : Int32) (a2 : Int32) (a3 : Int32) (u : gg_M)  (Q : Int32 → gg_M → Prop) : Prop :=
  w_X11_turns_c44 a1 a2 a3 0 u Q
set_option maxRecDepth 10000 in
theorem m_X11_turns_c43 {a1 : Int32} {a2 : Int32} {a3 : Int32} {u : gg_M}  {G : gg_T} {Q : Int32 → gg_M → Prop} (hG : gg_Cl none cX11_turns 15 RX11 (some .int) 2 (gg_eI Q) G)  (h : w_X11_turns_c43 a1 a2 a3 u  Q)   : G 43 [some (.ref 1), some (.int a1), some (.int a2), some (.int a3), none, none, none, none, none, none, none, none, none, none, none] [] u := by
  unfold w_X11_turns_c43 at h
  refine gg_iconst (v := 0) hG dX11_turns_43 (by decide) ?_
  exact m_X11_turns_c44 hG h
def w_X11_turns_c39 (a1 : Int32) (a2 : Int32) (a3 : Int32) (u : gg_M)  (Q : Int32 → gg_M → Prop) : Prop :=
  w_X11_turns_c44 a1 a2 a3 1 u Q
set_option maxRecDepth 10000 in
theorem m_X11_turns_c39 {a1 : Int32} {a2 : Int32} {a3 : Int32} {u : gg_M}  {G : gg_T} {Q : Int32 → gg_M → Prop} (hG : gg_Cl none cX11_turns 15 RX11 (some .int) 2 (gg_eI Q) G)  (h : w_X11_turns_c39 a1 a2 a3 u  Q)   : G 39 [some (.ref 1), some (.int a1), some (.int a2), some (.int a3), none, none, none, none, none, none, none, none, none, none, none] [] u := by
  unfold w_X11_turns_c39 at h
  refine gg_iconst (v := 1) hG dX11_turns_39 (by decide) ?_
  refine gg_goto (tgt := 44) hG dX11_turns_40 (by decide) ?_
  exact m_X11_turns_c44 hG h
def w_X11_turns (a1 : Int32) (a2 : Int32) (u : gg_M)  (Q : Int32 → gg_M → Prop) : Prop :=
  vp_in (a1 + 6) 1024 ∧
  ∀ v55 : Int32, v55 = (u.1 51 ((a1 + 6).toNatClampNeg)) →
  w_X11_isIn v55 2 u (fun v57 u56 =>
  (¬ v57 = 0 →
   w_X11_turns_c39 a1 a2 v55 u56 Q) ∧
  (v57 = 0 →
   w_X11_isIn v55 4 u56 (fun v60 u59 =>
   (v60 = 0 →
    w_X11_turns_c43 a1 a2 v55 u59 Q) ∧
   (¬ v60 = 0 →
    vp_in (a1 + 4) 1024 ∧
    (6 ≤ (u59.1 51 ((a1 + 4).toNatClampNeg)) →
     w_X11_turns_c43 a1 a2 v55 u59 Q) ∧
    (¬ 6 ≤ (u59.1 51 ((a1 + 4).toNatClampNeg)) →
     w_X11_turns_c39 a1 a2 v55 u59 Q)))))
set_option maxRecDepth 10000 in
theorem m_X11_turns {a1 : Int32} {a2 : Int32} {u : gg_M}  {G : gg_T} {Q : Int32 → gg_M → Prop} (hG : gg_Cl none cX11_turns 15 RX11 (some .int) 2 (gg_eI Q) G)  (h : w_X11_turns a1 a2 u  Q)   : G 0 [some (.ref 1), some (.int a1), some (.int a2), none, none, none, none, none, none, none, none, none, none, none, none] [] u := by
  unfold w_X11_turns at h
  refine gg_aload_n hG dX11_turns_0 rfl rfl ?_
  refine gg_get (v := .ref 51) hG dX11_turns_1 (by decide) rfl fl_RX11_22 rfl ?_
  refine gg_iload_n hG dX11_turns_4 rfl rfl ?_
  refine gg_bipush (v := 6) hG dX11_turns_5 (by decide) ?_
  refine gg_iadd hG dX11_turns_7 ?_
  obtain ⟨h54, h⟩ := h
  refine gg_iald (j := (a1 + 6).toNatClampNeg) hG dX11_turns_8 (by decide) rfl h54 rfl ?_
  refine gg_ni (fun v55 e55 => ?_)
  replace h := h v55 e55
  refine gg_istore_n (L1 := [some (.ref 1), some (.int a1), some (.int a2), some (.int v55), none, none, none, none, none, none, none, none, none, none, none]) hG dX11_turns_9 rfl (by decide) rfl ?_
  refine gg_iload_n hG dX11_turns_10 rfl rfl ?_
  refine gg_iconst (v := 2) hG dX11_turns_11 (by decide) ?_
  refine gg_xs (As := [.int v55, .int 2]) (st := []) hG dX11_turns_12 ml_RX11_119 Y_X11_isIn YS_X11_isIn (mt_X11_isIn h) rfl (by decide) (Nat.le_of_ble_eq_true rfl) rfl (gg_ki (fun v57 u56 h => ?_))
  refine gg_if_ne (tgt := 39) hG dX11_turns_15 (by decide) (fun c58 => ?_) (fun c58 => ?_)
  · replace h := h.1 c58
    exact m_X11_turns_c39 hG h
  · replace h := h.2 c58
    refine gg_iload_n hG dX11_turns_18 rfl rfl ?_
    refine gg_iconst (v := 4) hG dX11_turns_19 (by decide) ?_
    refine gg_xs (As := [.int v55, .int 4]) (st := []) hG dX11_turns_20 ml_RX11_119 Y_X11_isIn YS_X11_isIn (mt_X11_isIn h) rfl (by decide) (Nat.le_of_ble_eq_true rfl) rfl (gg_ki (fun v60 u59 h => ?_))
    refine gg_if_eq (tgt := 43) hG dX11_turns_23 (by decide) (fun c61 => ?_) (fun c61 => ?_)
    · replace h := h.1 c61
      exact m_X11_turns_c43 hG h
    · replace h := h.2 c61
      refine gg_aload_n hG dX11_turns_26 rfl rfl ?_
      refine gg_get (v := .ref 51) hG dX11_turns_27 (by decide) rfl fl_RX11_22 rfl ?_
      refine gg_iload_n hG dX11_turns_30 rfl rfl ?_
      refine gg_iconst (v := 4) hG dX11_turns_31 (by decide) ?_
      refine gg_iadd hG dX11_turns_32 ?_
      obtain ⟨h62, h⟩ := h
      refine gg_iald (j := (a1 + 4).toNatClampNeg) hG dX11_turns_33 (by decide) rfl h62 rfl ?_
      refine gg_bipush (v := 6) hG dX11_turns_34 (by decide) ?_
      refine gg_ic_ge (tgt := 43) hG dX11_turns_36 (by decide) (fun c63 => ?_) (fun c63 => ?_)
      · replace h := h.1 c63
        exact m_X11_turns_c43 hG h
      · replace h := h.2 c63
        exact m_X11_turns_c39 hG h
theorem mt_X11_turns {a1 : Int32} {a2 : Int32}  {u : gg_M} {Q : Int32 → gg_M → Prop} (h : w_X11_turns a1 a2 u Q) : gg_Mt 2 yX11_turns cX11_turns 15 (some .int) [.ref 1, .int a1, .int a2] u (gg_eI Q) :=
  gg_intro (own := RX11) (by decide +kernel) rfl rfl (Nat.le_of_ble_eq_true rfl) (fun G hG => m_X11_turns hG  h)
/-! X11_does -/
def w_X11_does_c322 (z1 : Int32) (z2 : Int32) (u : gg_M)  (Q : Int32 → gg_M → Prop) : Prop :=
  vp_in z1 1024 ∧
  ∀ u2 : gg_M, u2 = gg_wI u 51 z1.toNatClampNeg z2 →
  Q 0 u2
set_option maxRecDepth 10000 in
theorem m_X11_does_c322 {z1 : Int32} {z2 : Int32} {u : gg_M}  {G : gg_T} {Q : Int32 → gg_M → Prop} (hG : gg_Cl none cX11_does 7 RX11 (some .int) 3 (gg_eI Q) G)  (h : w_X11_does_c322 z1 z2 u  Q)   : G 322 [none, none, none, none, none, none, none] [.int z2, .int z1, .ref 51] u := by
  unfold w_X11_does_c322 at h
  obtain ⟨h1, h⟩ := h
  refine gg_iast (j := z1.toNatClampNeg) hG dX11_does_322 (by decide) rfl h1 rfl ?_
  refine gg_nu (fun u2 eu2 => ?_)
  replace h := h u2 eu2
  refine gg_iconst (v := 0) hG dX11_does_323 (by decide) ?_
  exact gg_iret hG dX11_does_324 rfl rfl ⟨_, rfl, h⟩
def w_X11_does_c268 (a4 : Int32) (z0 : Int32) (u : gg_M)  (Q : Int32 → gg_M → Prop) : Prop :=
  vp_in (a4 + 3) 1024 ∧
  ∀ u4 : gg_M, u4 = gg_wI u 51 ((a4 + 3).toNatClampNeg) 0 →
  Q z0 u4
set_option maxRecDepth 10000 in
theorem m_X11_does_c268 {a4 : Int32} {z0 : Int32} {u : gg_M}  {G : gg_T} {Q : Int32 → gg_M → Prop} (hG : gg_Cl none cX11_does 7 RX11 (some .int) 3 (gg_eI Q) G)  (h : w_X11_does_c268 a4 z0 u  Q)   : G 268 [some (.ref 1), none, none, none, some (.int a4), none, none] [.int z0] u := by
  unfold w_X11_does_c268 at h
  refine gg_istore (L1 := [some (.ref 1), none, none, none, some (.int a4), none, some (.int z0)]) hG dX11_does_268 (by decide) rfl ?_
  refine gg_aload_n hG dX11_does_270 rfl rfl ?_
  refine gg_get (v := .ref 51) hG dX11_does_271 (by decide) rfl fl_RX11_22 rfl ?_
  refine gg_iload hG dX11_does_274 rfl ?_
  refine gg_iconst (v := 3) hG dX11_does_276 (by decide) ?_
  refine gg_iadd hG dX11_does_277 ?_
  refine gg_iconst (v := 0) hG dX11_does_278 (by decide) ?_
  obtain ⟨h3, h⟩ := h
  refine gg_iast (j := (a4 + 3).toNatClampNeg) hG dX11_does_279 (by decide) rfl h3 rfl ?_
  refine gg_nu (fun u4 eu4 => ?_)
  replace h := h u4 eu4
  refine gg_iload hG dX11_does_280 rfl ?_
  exact gg_iret hG dX11_does_282 rfl rfl ⟨_, rfl, h⟩
def w_X11_does_c247 (z1 : Int32) (z2 : Int32) (u : gg_M)  (Q : Int32 → gg_M → Prop) : Prop :=
  vp_in z1 1024 ∧
  ∀ u6 : gg_M, u6 = gg_wI u 51 z1.toNatClampNeg z2 →
  Q 0 u6
set_option maxRecDepth 10000 in
theorem m_X11_does_c247 {z1 : Int32} {z2 : Int32} {u : gg_M}  {G : gg_T} {Q : Int32 → gg_M → Prop} (hG : gg_Cl none cX11_does 7 RX11 (some .int) 3 (gg_eI Q) G)  (h : w_X11_does_c247 z1 z2 u  Q)   : G 247 [none, none, none, none, none, none, none] [.int z2, .int z1, .ref 51] u := by
  unfold w_X11_does_c247 at h
  obtain ⟨h5, h⟩ := h
  refine gg_iast (j := z1.toNatClampNeg) hG dX11_does_247 (by decide) rfl h5 rfl ?_
  refine gg_nu (fun u6 eu6 => ?_)
  replace h := h u6 eu6
  refine gg_iconst (v := 0) hG dX11_does_248 (by decide) ?_
  exact gg_iret hG dX11_does_249 rfl rfl ⟨_, rfl, h⟩
def w_X11_does_c205 (a4 : Int32) (z1 : Int32) (z2 : Int32) (u : gg_M)  (Q : Int32 → gg_M → Prop) : Prop :=
  vp_in z1 1024 ∧
  ∀ u8 : gg_M, u8 = gg_wI u 51 z1.toNatClampNeg z2 →
  vp_in a4 1024 ∧
  ((u8.1 49 5) ≤ (u8.1 51 a4.toNatClampNeg) →
   vp_in a4 1024 ∧
   w_X11_does_c247 a4 (u8.1 51 a4.toNatClampNeg) u8 Q) ∧
  (¬ (u8.1 49 5) ≤ (u8.1 51 a4.toNatClampNeg) →
   vp_in a4 1024 ∧
   w_X11_does_c247 a4 ((u8.1 51 a4.toNatClampNeg) + 1) u8 Q)
set_option maxRecDepth 10000 in
theorem m_X11_does_c205 {a4 : Int32} {z1 : Int32} {z2 : Int32} {u : gg_M}  {G : gg_T} {Q : Int32 → gg_M → Prop} (hG : gg_Cl none cX11_does 7 RX11 (some .int) 3 (gg_eI Q) G)  (h : w_X11_does_c205 a4 z1 z2 u  Q)   : G 205 [some (.ref 1), none, none, none, some (.int a4), none, none] [.int z2, .int z1, .ref 51] u := by
  unfold w_X11_does_c205 at h
  obtain ⟨h7, h⟩ := h
  refine gg_iast (j := z1.toNatClampNeg) hG dX11_does_205 (by decide) rfl h7 rfl ?_
  refine gg_nu (fun u8 eu8 => ?_)
  replace h := h u8 eu8
  refine gg_aload_n hG dX11_does_206 rfl rfl ?_
  refine gg_get (v := .ref 51) hG dX11_does_207 (by decide) rfl fl_RX11_22 rfl ?_
  refine gg_iload hG dX11_does_210 rfl ?_
  refine gg_aload_n hG dX11_does_212 rfl rfl ?_
  refine gg_get (v := .ref 51) hG dX11_does_213 (by decide) rfl fl_RX11_22 rfl ?_
  refine gg_iload hG dX11_does_216 rfl ?_
  obtain ⟨h9, h⟩ := h
  refine gg_iald (j := a4.toNatClampNeg) hG dX11_does_218 (by decide) rfl h9 rfl ?_
  refine gg_aload_n hG dX11_does_219 rfl rfl ?_
  refine gg_get (v := .ref 49) hG dX11_does_220 (by decide) rfl fl_RX11_16 rfl ?_
  refine gg_iconst (v := 5) hG dX11_does_223 (by decide) ?_
  refine gg_iald (j := 5) hG dX11_does_224 (by decide) rfl (gg_vin (by decide +kernel)) (by decide) ?_
  refine gg_ic_ge (tgt := 240) hG dX11_does_225 (by decide) (fun c10 => ?_) (fun c10 => ?_)
  · replace h := h.1 c10
    refine gg_aload_n hG dX11_does_240 rfl rfl ?_
    refine gg_get (v := .ref 51) hG dX11_does_241 (by decide) rfl fl_RX11_22 rfl ?_
    refine gg_iload hG dX11_does_244 rfl ?_
    obtain ⟨h11, h⟩ := h
    refine gg_iald (j := a4.toNatClampNeg) hG dX11_does_246 (by decide) rfl h11 rfl ?_
    refine gg_mk hG [false, false, false, false, false, false, false] rfl ?_
    exact m_X11_does_c247 hG h
  · replace h := h.2 c10
    refine gg_aload_n hG dX11_does_228 rfl rfl ?_
    refine gg_get (v := .ref 51) hG dX11_does_229 (by decide) rfl fl_RX11_22 rfl ?_
    refine gg_iload hG dX11_does_232 rfl ?_
    obtain ⟨h12, h⟩ := h
    refine gg_iald (j := a4.toNatClampNeg) hG dX11_does_234 (by decide) rfl h12 rfl ?_
    refine gg_iconst (v := 1) hG dX11_does_235 (by decide) ?_
    refine gg_iadd hG dX11_does_236 ?_
    refine gg_goto (tgt := 247) hG dX11_does_237 (by decide) ?_
    refine gg_mk hG [false, false, false, false, false, false, false] rfl ?_
    exact m_X11_does_c247 hG h
def w_X11_does_c168 (a4 : Int32) (z1 : Int32) (z2 : Int32) (u : gg_M)  (Q : Int32 → gg_M → Prop) : Prop :=
  vp_in z1 1024 ∧
  ∀ u14 : gg_M, u14 = gg_wI u 51 z1.toNatClampNeg z2 →
  vp_in (a4 + 4) 1024 ∧
  ((u14.1 51 ((a4 + 4).toNatClampNeg)) ≤ 1 →
   w_X11_does_c205 a4 (a4 + 4) 0 u14 Q) ∧
  (¬ (u14.1 51 ((a4 + 4).toNatClampNeg)) ≤ 1 →
   vp_in (a4 + 4) 1024 ∧
   w_X11_does_c205 a4 (a4 + 4) ((u14.1 51 ((a4 + 4).toNatClampNeg)) - 1) u14 Q)
set_option maxRecDepth 10000 in
theorem m_X11_does_c168 {a4 : Int32} {z1 : Int32} {z2 : Int32} {u : gg_M}  {G : gg_T} {Q : Int32 → gg_M → Prop} (hG : gg_Cl none cX11_does 7 RX11 (some .int) 3 (gg_eI Q) G)  (h : w_X11_does_c168 a4 z1 z2 u  Q)   : G 168 [some (.ref 1), none, none, none, some (.int a4), none, none] [.int z2, .int z1, .ref 51] u := by
  unfold w_X11_does_c168 at h
  obtain ⟨h13, h⟩ := h
  refine gg_iast (j := z1.toNatClampNeg) hG dX11_does_168 (by decide) rfl h13 rfl ?_
  refine gg_nu (fun u14 eu14 => ?_)
  replace h := h u14 eu14
  refine gg_aload_n hG dX11_does_169 rfl rfl ?_
  refine gg_get (v := .ref 51) hG dX11_does_170 (by decide) rfl fl_RX11_22 rfl ?_
  refine gg_iload hG dX11_does_173 rfl ?_
  refine gg_iconst (v := 4) hG dX11_does_175 (by decide) ?_
  refine gg_iadd hG dX11_does_176 ?_
  refine gg_aload_n hG dX11_does_177 rfl rfl ?_
  refine gg_get (v := .ref 51) hG dX11_does_178 (by decide) rfl fl_RX11_22 rfl ?_
  refine gg_iload hG dX11_does_181 rfl ?_
  refine gg_iconst (v := 4) hG dX11_does_183 (by decide) ?_
  refine gg_iadd hG dX11_does_184 ?_
  obtain ⟨h15, h⟩ := h
  refine gg_iald (j := (a4 + 4).toNatClampNeg) hG dX11_does_185 (by decide) rfl h15 rfl ?_
  refine gg_iconst (v := 1) hG dX11_does_186 (by decide) ?_
  refine gg_ic_le (tgt := 204) hG dX11_does_187 (by decide) (fun c16 => ?_) (fun c16 => ?_)
  · replace h := h.1 c16
    refine gg_iconst (v := 0) hG dX11_does_204 (by decide) ?_
    exact m_X11_does_c205 hG h
  · replace h := h.2 c16
    refine gg_aload_n hG dX11_does_190 rfl rfl ?_
    refine gg_get (v := .ref 51) hG dX11_does_191 (by decide) rfl fl_RX11_22 rfl ?_
    refine gg_iload hG dX11_does_194 rfl ?_
    refine gg_iconst (v := 4) hG dX11_does_196 (by decide) ?_
    refine gg_iadd hG dX11_does_197 ?_
    obtain ⟨h17, h⟩ := h
    refine gg_iald (j := (a4 + 4).toNatClampNeg) hG dX11_does_198 (by decide) rfl h17 rfl ?_
    refine gg_iconst (v := 1) hG dX11_does_199 (by decide) ?_
    refine gg_isub hG dX11_does_200 ?_
    refine gg_goto (tgt := 205) hG dX11_does_201 (by decide) ?_
    exact m_X11_does_c205 hG h
def w_X11_does_c75  (u : gg_M)  (Q : Int32 → gg_M → Prop) : Prop :=
  Q 4 u
set_option maxRecDepth 10000 in
theorem m_X11_does_c75  {u : gg_M}  {G : gg_T} {Q : Int32 → gg_M → Prop} (hG : gg_Cl none cX11_does 7 RX11 (some .int) 3 (gg_eI Q) G)  (h : w_X11_does_c75  u  Q)   : G 75 [none, none, none, none, none, none, none] [] u := by
  unfold w_X11_does_c75 at h
  refine gg_iconst (v := 4) hG dX11_does_75 (by decide) ?_
  exact gg_iret hG dX11_does_76 rfl rfl ⟨_, rfl, h⟩
def w_X11_does_c31 (a3 : Int32) (a4 : Int32) (z0 : Int32) (u : gg_M)  (Q : Int32 → gg_M → Prop) : Prop :=
  vp_in (a4 + 7) 1024 ∧
  ((u.1 51 ((a4 + 7).toNatClampNeg)) = 1 →
   w_X11_does_c75 u Q) ∧
  (¬ (u.1 51 ((a4 + 7).toNatClampNeg)) = 1 →
   vp_in (a4 + 1) 1024 ∧
   w_X11_lightFor a3 u (fun v22 u21 =>
   ((u.1 51 ((a4 + 1).toNatClampNeg)) < v22 →
    w_X11_does_c75 u21 Q) ∧
   (¬ (u.1 51 ((a4 + 1).toNatClampNeg)) < v22 →
    vp_in a4 1024 ∧
    (z0 ≤ (u21.1 51 a4.toNatClampNeg) →
     vp_in (a4 + 1) 1024 ∧
     w_X11_lightFor a3 u21 (fun v28 u27 =>
     vp_in (a4 + 1) 1024 ∧
     ∀ u30 : gg_M, u30 = gg_wI u27 51 ((a4 + 1).toNatClampNeg) ((u21.1 51 ((a4 + 1).toNatClampNeg)) - v28) →
     (a3 = 4 →
      vp_in (a4 + 3) 1024 ∧
      ((u30.1 51 ((a4 + 3).toNatClampNeg)) ≤ 4 →
       w_X11_does_c168 a4 (a4 + 3) 0 u30 Q) ∧
      (¬ (u30.1 51 ((a4 + 3).toNatClampNeg)) ≤ 4 →
       vp_in (a4 + 3) 1024 ∧
       w_X11_does_c168 a4 (a4 + 3) ((u30.1 51 ((a4 + 3).toNatClampNeg)) - 4) u30 Q)) ∧
     (a3 = 5 →
      vp_in (a4 + 3) 1024 ∧
      ((u30.1 51 ((a4 + 3).toNatClampNeg)) ≤ 0 →
       w_X11_does_c268 a4 6 u30 Q) ∧
      (¬ (u30.1 51 ((a4 + 3).toNatClampNeg)) ≤ 0 →
       w_X11_does_c268 a4 5 u30 Q)) ∧
     (a3 = 6 →
      vp_in (a4 + 4) 1024 ∧
      ((u30.1 51 ((a4 + 4).toNatClampNeg)) ≤ 14 →
       vp_in (a4 + 4) 1024 ∧
       w_X11_does_c322 (a4 + 4) ((u30.1 51 ((a4 + 4).toNatClampNeg)) + 6) u30 Q) ∧
      (¬ (u30.1 51 ((a4 + 4).toNatClampNeg)) ≤ 14 →
       w_X11_does_c322 (a4 + 4) 20 u30 Q)) ∧
     (a3 = 7 →
      vp_in (a4 + 5) 1024 ∧
      ∀ u44 : gg_M, u44 = gg_wI u30 51 ((a4 + 5).toNatClampNeg) 5 →
      Q 0 u44) ∧
     (a3 = 8 →
      vp_in (a4 + 6) 1024 ∧
      vp_in (a4 + 6) 1024 ∧
      ∀ u48 : gg_M, u48 = gg_wI u30 51 ((a4 + 6).toNatClampNeg) ((u30.1 51 ((a4 + 6).toNatClampNeg)) &&& 29) →
      Q 0 u48) ∧
     (a3 = 9 →
      vp_in (a4 + 6) 1024 ∧
      vp_in (a4 + 6) 1024 ∧
      ∀ u52 : gg_M, u52 = gg_wI u30 51 ((a4 + 6).toNatClampNeg) ((u30.1 51 ((a4 + 6).toNatClampNeg)) &&& 23) →
      Q 0 u52) ∧
     ((a3.toInt < 4 ∨ 9 < a3.toInt) →
      vp_in a4 1024 ∧
      vp_in a4 1024 ∧
      ∀ u55 : gg_M, u55 = gg_wI u30 51 a4.toNatClampNeg ((u30.1 51 a4.toNatClampNeg) - z0) →
      w_X11_turns a4 a3 u55 (fun v57 u56 =>
      Q v57 u56)))) ∧
    (¬ z0 ≤ (u21.1 51 a4.toNatClampNeg) →
     w_X11_does_c75 u21 Q))))
set_option maxRecDepth 10000 in
theorem m_X11_does_c31 {a3 : Int32} {a4 : Int32} {z0 : Int32} {u : gg_M}  {G : gg_T} {Q : Int32 → gg_M → Prop} (hG : gg_Cl none cX11_does 7 RX11 (some .int) 3 (gg_eI Q) G)  (h : w_X11_does_c31 a3 a4 z0 u  Q)   : G 31 [some (.ref 1), none, none, some (.int a3), some (.int a4), none, none] [.int z0] u := by
  unfold w_X11_does_c31 at h
  refine gg_istore (L1 := [some (.ref 1), none, none, some (.int a3), some (.int a4), some (.int z0), none]) hG dX11_does_31 (by decide) rfl ?_
  refine gg_aload_n hG dX11_does_33 rfl rfl ?_
  refine gg_get (v := .ref 51) hG dX11_does_34 (by decide) rfl fl_RX11_22 rfl ?_
  refine gg_iload hG dX11_does_37 rfl ?_
  refine gg_bipush (v := 7) hG dX11_does_39 (by decide) ?_
  refine gg_iadd hG dX11_does_41 ?_
  obtain ⟨h18, h⟩ := h
  refine gg_iald (j := (a4 + 7).toNatClampNeg) hG dX11_does_42 (by decide) rfl h18 rfl ?_
  refine gg_iconst (v := 1) hG dX11_does_43 (by decide) ?_
  refine gg_ic_eq (tgt := 75) hG dX11_does_44 (by decide) (fun c19 => ?_) (fun c19 => ?_)
  · replace h := h.1 c19
    refine gg_mk hG [false, false, false, false, false, false, false] rfl ?_
    exact m_X11_does_c75 hG h
  · replace h := h.2 c19
    refine gg_aload_n hG dX11_does_47 rfl rfl ?_
    refine gg_get (v := .ref 51) hG dX11_does_48 (by decide) rfl fl_RX11_22 rfl ?_
    refine gg_iload hG dX11_does_51 rfl ?_
    refine gg_iconst (v := 1) hG dX11_does_53 (by decide) ?_
    refine gg_iadd hG dX11_does_54 ?_
    obtain ⟨h20, h⟩ := h
    refine gg_iald (j := (a4 + 1).toNatClampNeg) hG dX11_does_55 (by decide) rfl h20 rfl ?_
    refine gg_iload_n hG dX11_does_56 rfl rfl ?_
    refine gg_xs (As := [.int a3]) (st := [.int (u.1 51 ((a4 + 1).toNatClampNeg))]) hG dX11_does_57 ml_RX11_113 Y_X11_lightFor YS_X11_lightFor (mt_X11_lightFor h) rfl (by decide) (Nat.le_of_ble_eq_true rfl) rfl (gg_ki (fun v22 u21 h => ?_))
    refine gg_ic_lt (tgt := 75) hG dX11_does_60 (by decide) (fun c23 => ?_) (fun c23 => ?_)
    · replace h := h.1 c23
      refine gg_mk hG [false, false, false, false, false, false, false] rfl ?_
      exact m_X11_does_c75 hG h
    · replace h := h.2 c23
      refine gg_aload_n hG dX11_does_63 rfl rfl ?_
      refine gg_get (v := .ref 51) hG dX11_does_64 (by decide) rfl fl_RX11_22 rfl ?_
      refine gg_iload hG dX11_does_67 rfl ?_
      obtain ⟨h24, h⟩ := h
      refine gg_iald (j := a4.toNatClampNeg) hG dX11_does_69 (by decide) rfl h24 rfl ?_
      refine gg_iload hG dX11_does_70 rfl ?_
      refine gg_ic_ge (tgt := 77) hG dX11_does_72 (by decide) (fun c25 => ?_) (fun c25 => ?_)
      · replace h := h.1 c25
        refine gg_aload_n hG dX11_does_77 rfl rfl ?_
        refine gg_get (v := .ref 51) hG dX11_does_78 (by decide) rfl fl_RX11_22 rfl ?_
        refine gg_iload hG dX11_does_81 rfl ?_
        refine gg_iconst (v := 1) hG dX11_does_83 (by decide) ?_
        refine gg_iadd hG dX11_does_84 ?_
        refine gg_dup2 hG dX11_does_85 rfl rfl ?_
        obtain ⟨h26, h⟩ := h
        refine gg_iald (j := (a4 + 1).toNatClampNeg) hG dX11_does_86 (by decide) rfl h26 rfl ?_
        refine gg_iload_n hG dX11_does_87 rfl rfl ?_
        refine gg_xs (As := [.int a3]) (st := [.int (u21.1 51 ((a4 + 1).toNatClampNeg)), .int (a4 + 1), .ref 51]) hG dX11_does_88 ml_RX11_113 Y_X11_lightFor YS_X11_lightFor (mt_X11_lightFor h) rfl (by decide) (Nat.le_of_ble_eq_true rfl) rfl (gg_ki (fun v28 u27 h => ?_))
        refine gg_isub hG dX11_does_91 ?_
        obtain ⟨h29, h⟩ := h
        refine gg_iast (j := (a4 + 1).toNatClampNeg) hG dX11_does_92 (by decide) rfl h29 rfl ?_
        refine gg_nu (fun u30 eu30 => ?_)
        replace h := h u30 eu30
        refine gg_iload_n hG dX11_does_93 rfl rfl ?_
        by_cases c31 : a3 = 4
        · refine gg_tabIn (off := 38) (tgt := 132) hG dX11_does_94 (by rw [c31]; decide) (by rw [c31]; decide) (by rw [c31]; decide) (by decide) ?_
          replace h := h.1 c31
          refine gg_aload_n hG dX11_does_132 rfl rfl ?_
          refine gg_get (v := .ref 51) hG dX11_does_133 (by decide) rfl fl_RX11_22 rfl ?_
          refine gg_iload hG dX11_does_136 rfl ?_
          refine gg_iconst (v := 3) hG dX11_does_138 (by decide) ?_
          refine gg_iadd hG dX11_does_139 ?_
          refine gg_aload_n hG dX11_does_140 rfl rfl ?_
          refine gg_get (v := .ref 51) hG dX11_does_141 (by decide) rfl fl_RX11_22 rfl ?_
          refine gg_iload hG dX11_does_144 rfl ?_
          refine gg_iconst (v := 3) hG dX11_does_146 (by decide) ?_
          refine gg_iadd hG dX11_does_147 ?_
          obtain ⟨h32, h⟩ := h
          refine gg_iald (j := (a4 + 3).toNatClampNeg) hG dX11_does_148 (by decide) rfl h32 rfl ?_
          refine gg_iconst (v := 4) hG dX11_does_149 (by decide) ?_
          refine gg_ic_le (tgt := 167) hG dX11_does_150 (by decide) (fun c33 => ?_) (fun c33 => ?_)
          · replace h := h.1 c33
            refine gg_iconst (v := 0) hG dX11_does_167 (by decide) ?_
            refine gg_mk hG [true, false, false, false, true, false, false] rfl ?_
            exact m_X11_does_c168 hG h
          · replace h := h.2 c33
            refine gg_aload_n hG dX11_does_153 rfl rfl ?_
            refine gg_get (v := .ref 51) hG dX11_does_154 (by decide) rfl fl_RX11_22 rfl ?_
            refine gg_iload hG dX11_does_157 rfl ?_
            refine gg_iconst (v := 3) hG dX11_does_159 (by decide) ?_
            refine gg_iadd hG dX11_does_160 ?_
            obtain ⟨h34, h⟩ := h
            refine gg_iald (j := (a4 + 3).toNatClampNeg) hG dX11_does_161 (by decide) rfl h34 rfl ?_
            refine gg_iconst (v := 4) hG dX11_does_162 (by decide) ?_
            refine gg_isub hG dX11_does_163 ?_
            refine gg_goto (tgt := 168) hG dX11_does_164 (by decide) ?_
            refine gg_mk hG [true, false, false, false, true, false, false] rfl ?_
            exact m_X11_does_c168 hG h
        by_cases c35 : a3 = 5
        · refine gg_tabIn (off := 156) (tgt := 250) hG dX11_does_94 (by rw [c35]; decide) (by rw [c35]; decide) (by rw [c35]; decide) (by decide) ?_
          replace h := h.2.1 c35
          refine gg_aload_n hG dX11_does_250 rfl rfl ?_
          refine gg_get (v := .ref 51) hG dX11_does_251 (by decide) rfl fl_RX11_22 rfl ?_
          refine gg_iload hG dX11_does_254 rfl ?_
          refine gg_iconst (v := 3) hG dX11_does_256 (by decide) ?_
          refine gg_iadd hG dX11_does_257 ?_
          obtain ⟨h36, h⟩ := h
          refine gg_iald (j := (a4 + 3).toNatClampNeg) hG dX11_does_258 (by decide) rfl h36 rfl ?_
          refine gg_if_le (tgt := 266) hG dX11_does_259 (by decide) (fun c37 => ?_) (fun c37 => ?_)
          · replace h := h.1 c37
            refine gg_bipush (v := 6) hG dX11_does_266 (by decide) ?_
            refine gg_mk hG [true, false, false, false, true, false, false] rfl ?_
            exact m_X11_does_c268 hG h
          · replace h := h.2 c37
            refine gg_iconst (v := 5) hG dX11_does_262 (by decide) ?_
            refine gg_goto (tgt := 268) hG dX11_does_263 (by decide) ?_
            refine gg_mk hG [true, false, false, false, true, false, false] rfl ?_
            exact m_X11_does_c268 hG h
        by_cases c38 : a3 = 6
        · refine gg_tabIn (off := 189) (tgt := 283) hG dX11_does_94 (by rw [c38]; decide) (by rw [c38]; decide) (by rw [c38]; decide) (by decide) ?_
          replace h := h.2.2.1 c38
          refine gg_aload_n hG dX11_does_283 rfl rfl ?_
          refine gg_get (v := .ref 51) hG dX11_does_284 (by decide) rfl fl_RX11_22 rfl ?_
          refine gg_iload hG dX11_does_287 rfl ?_
          refine gg_iconst (v := 4) hG dX11_does_289 (by decide) ?_
          refine gg_iadd hG dX11_does_290 ?_
          refine gg_aload_n hG dX11_does_291 rfl rfl ?_
          refine gg_get (v := .ref 51) hG dX11_does_292 (by decide) rfl fl_RX11_22 rfl ?_
          refine gg_iload hG dX11_does_295 rfl ?_
          refine gg_iconst (v := 4) hG dX11_does_297 (by decide) ?_
          refine gg_iadd hG dX11_does_298 ?_
          obtain ⟨h39, h⟩ := h
          refine gg_iald (j := (a4 + 4).toNatClampNeg) hG dX11_does_299 (by decide) rfl h39 rfl ?_
          refine gg_bipush (v := 14) hG dX11_does_300 (by decide) ?_
          refine gg_ic_le (tgt := 310) hG dX11_does_302 (by decide) (fun c40 => ?_) (fun c40 => ?_)
          · replace h := h.1 c40
            refine gg_aload_n hG dX11_does_310 rfl rfl ?_
            refine gg_get (v := .ref 51) hG dX11_does_311 (by decide) rfl fl_RX11_22 rfl ?_
            refine gg_iload hG dX11_does_314 rfl ?_
            refine gg_iconst (v := 4) hG dX11_does_316 (by decide) ?_
            refine gg_iadd hG dX11_does_317 ?_
            obtain ⟨h41, h⟩ := h
            refine gg_iald (j := (a4 + 4).toNatClampNeg) hG dX11_does_318 (by decide) rfl h41 rfl ?_
            refine gg_bipush (v := 6) hG dX11_does_319 (by decide) ?_
            refine gg_iadd hG dX11_does_321 ?_
            refine gg_mk hG [false, false, false, false, false, false, false] rfl ?_
            exact m_X11_does_c322 hG h
          · replace h := h.2 c40
            refine gg_bipush (v := 20) hG dX11_does_305 (by decide) ?_
            refine gg_goto (tgt := 322) hG dX11_does_307 (by decide) ?_
            refine gg_mk hG [false, false, false, false, false, false, false] rfl ?_
            exact m_X11_does_c322 hG h
        by_cases c42 : a3 = 7
        · refine gg_tabIn (off := 231) (tgt := 325) hG dX11_does_94 (by rw [c42]; decide) (by rw [c42]; decide) (by rw [c42]; decide) (by decide) ?_
          replace h := h.2.2.2.1 c42
          refine gg_aload_n hG dX11_does_325 rfl rfl ?_
          refine gg_get (v := .ref 51) hG dX11_does_326 (by decide) rfl fl_RX11_22 rfl ?_
          refine gg_iload hG dX11_does_329 rfl ?_
          refine gg_iconst (v := 5) hG dX11_does_331 (by decide) ?_
          refine gg_iadd hG dX11_does_332 ?_
          refine gg_iconst (v := 5) hG dX11_does_333 (by decide) ?_
          obtain ⟨h43, h⟩ := h
          refine gg_iast (j := (a4 + 5).toNatClampNeg) hG dX11_does_334 (by decide) rfl h43 rfl ?_
          refine gg_nu (fun u44 eu44 => ?_)
          replace h := h u44 eu44
          refine gg_iconst (v := 0) hG dX11_does_335 (by decide) ?_
          exact gg_iret hG dX11_does_336 rfl rfl ⟨_, rfl, h⟩
        by_cases c45 : a3 = 8
        · refine gg_tabIn (off := 243) (tgt := 337) hG dX11_does_94 (by rw [c45]; decide) (by rw [c45]; decide) (by rw [c45]; decide) (by decide) ?_
          replace h := h.2.2.2.2.1 c45
          refine gg_aload_n hG dX11_does_337 rfl rfl ?_
          refine gg_get (v := .ref 51) hG dX11_does_338 (by decide) rfl fl_RX11_22 rfl ?_
          refine gg_iload hG dX11_does_341 rfl ?_
          refine gg_bipush (v := 6) hG dX11_does_343 (by decide) ?_
          refine gg_iadd hG dX11_does_345 ?_
          refine gg_dup2 hG dX11_does_346 rfl rfl ?_
          obtain ⟨h46, h⟩ := h
          refine gg_iald (j := (a4 + 6).toNatClampNeg) hG dX11_does_347 (by decide) rfl h46 rfl ?_
          refine gg_bipush (v := 29) hG dX11_does_348 (by decide) ?_
          refine gg_iand hG dX11_does_350 ?_
          obtain ⟨h47, h⟩ := h
          refine gg_iast (j := (a4 + 6).toNatClampNeg) hG dX11_does_351 (by decide) rfl h47 rfl ?_
          refine gg_nu (fun u48 eu48 => ?_)
          replace h := h u48 eu48
          refine gg_iconst (v := 0) hG dX11_does_352 (by decide) ?_
          exact gg_iret hG dX11_does_353 rfl rfl ⟨_, rfl, h⟩
        by_cases c49 : a3 = 9
        · refine gg_tabIn (off := 260) (tgt := 354) hG dX11_does_94 (by rw [c49]; decide) (by rw [c49]; decide) (by rw [c49]; decide) (by decide) ?_
          replace h := h.2.2.2.2.2.1 c49
          refine gg_aload_n hG dX11_does_354 rfl rfl ?_
          refine gg_get (v := .ref 51) hG dX11_does_355 (by decide) rfl fl_RX11_22 rfl ?_
          refine gg_iload hG dX11_does_358 rfl ?_
          refine gg_bipush (v := 6) hG dX11_does_360 (by decide) ?_
          refine gg_iadd hG dX11_does_362 ?_
          refine gg_dup2 hG dX11_does_363 rfl rfl ?_
          obtain ⟨h50, h⟩ := h
          refine gg_iald (j := (a4 + 6).toNatClampNeg) hG dX11_does_364 (by decide) rfl h50 rfl ?_
          refine gg_bipush (v := 23) hG dX11_does_365 (by decide) ?_
          refine gg_iand hG dX11_does_367 ?_
          obtain ⟨h51, h⟩ := h
          refine gg_iast (j := (a4 + 6).toNatClampNeg) hG dX11_does_368 (by decide) rfl h51 rfl ?_
          refine gg_nu (fun u52 eu52 => ?_)
          replace h := h u52 eu52
          refine gg_iconst (v := 0) hG dX11_does_369 (by decide) ?_
          exact gg_iret hG dX11_does_370 rfl rfl ⟨_, rfl, h⟩
        have hsw : a3.toInt < 4 ∨ 9 < a3.toInt := by
          have nc31 := lv_neT (a := 4) c31 (by decide)
          have nc35 := lv_neT (a := 5) c35 (by decide)
          have nc38 := lv_neT (a := 6) c38 (by decide)
          have nc42 := lv_neT (a := 7) c42 (by decide)
          have nc45 := lv_neT (a := 8) c45 (by decide)
          have nc49 := lv_neT (a := 9) c49 (by decide)
          omega
        refine gg_tabOut (tgt := 371) hG dX11_does_94 hsw (by decide) ?_
        replace h := h.2.2.2.2.2.2 hsw
        refine gg_aload_n hG dX11_does_371 rfl rfl ?_
        refine gg_get (v := .ref 51) hG dX11_does_372 (by decide) rfl fl_RX11_22 rfl ?_
        refine gg_iload hG dX11_does_375 rfl ?_
        refine gg_dup2 hG dX11_does_377 rfl rfl ?_
        obtain ⟨h53, h⟩ := h
        refine gg_iald (j := a4.toNatClampNeg) hG dX11_does_378 (by decide) rfl h53 rfl ?_
        refine gg_iload hG dX11_does_379 rfl ?_
        refine gg_isub hG dX11_does_381 ?_
        obtain ⟨h54, h⟩ := h
        refine gg_iast (j := a4.toNatClampNeg) hG dX11_does_382 (by decide) rfl h54 rfl ?_
        refine gg_nu (fun u55 eu55 => ?_)
        replace h := h u55 eu55
        refine gg_aload_n hG dX11_does_383 rfl rfl ?_
        refine gg_iload hG dX11_does_384 rfl ?_
        refine gg_iload_n hG dX11_does_386 rfl rfl ?_
        refine gg_xv (As := [.int a4, .int a3]) (st := []) hG dX11_does_387 ml_RX11_116 Y_X11_turns YV_X11_turns (by decide) ⟨_, rfl, rfl⟩ (mt_X11_turns h) rfl (by decide) (Nat.le_of_ble_eq_true rfl) rfl (gg_ki (fun v57 u56 h => ?_))
        exact gg_iret hG dX11_does_390 rfl rfl ⟨_, rfl, h⟩
      · replace h := h.2 c25
        refine gg_mk hG [false, false, false, false, false, false, false] rfl ?_
        exact m_X11_does_c75 hG h
def w_X11_does (a1 : Int32) (a2 : Int32) (a3 : Int32) (u : gg_M)  (Q : Int32 → gg_M → Prop) : Prop :=
  ∀ v58 : Int32, v58 = (((256 : Int32) * a1) + ((8 : Int32) * a2)) →
  (4 ≤ a3 →
   w_X11_does_c31 a3 v58 0 u Q) ∧
  (¬ 4 ≤ a3 →
   w_X11_does_c31 a3 v58 ((1 : Int32) + ((u.1 49 4) / 5)) u Q)
set_option maxRecDepth 10000 in
theorem m_X11_does {a1 : Int32} {a2 : Int32} {a3 : Int32} {u : gg_M}  {G : gg_T} {Q : Int32 → gg_M → Prop} (hG : gg_Cl none cX11_does 7 RX11 (some .int) 3 (gg_eI Q) G)  (h : w_X11_does a1 a2 a3 u  Q)   : G 0 [some (.ref 1), some (.int a1), some (.int a2), some (.int a3), none, none, none] [] u := by
  unfold w_X11_does at h
  refine gg_sipush (v := 256) hG dX11_does_0 (by decide) ?_
  refine gg_iload_n hG dX11_does_3 rfl rfl ?_
  refine gg_imul hG dX11_does_4 ?_
  refine gg_bipush (v := 8) hG dX11_does_5 (by decide) ?_
  refine gg_iload_n hG dX11_does_7 rfl rfl ?_
  refine gg_imul hG dX11_does_8 ?_
  refine gg_iadd hG dX11_does_9 ?_
  refine gg_ni (fun v58 e58 => ?_)
  replace h := h v58 e58
  refine gg_istore (L1 := [some (.ref 1), some (.int a1), some (.int a2), some (.int a3), some (.int v58), none, none]) hG dX11_does_10 (by decide) rfl ?_
  refine gg_iload_n hG dX11_does_12 rfl rfl ?_
  refine gg_iconst (v := 4) hG dX11_does_13 (by decide) ?_
  refine gg_ic_ge (tgt := 30) hG dX11_does_14 (by decide) (fun c59 => ?_) (fun c59 => ?_)
  · replace h := h.1 c59
    refine gg_iconst (v := 0) hG dX11_does_30 (by decide) ?_
    refine gg_mk hG [true, false, false, true, true, false, false] rfl ?_
    exact m_X11_does_c31 hG h
  · replace h := h.2 c59
    refine gg_iconst (v := 1) hG dX11_does_17 (by decide) ?_
    refine gg_aload_n hG dX11_does_18 rfl rfl ?_
    refine gg_get (v := .ref 49) hG dX11_does_19 (by decide) rfl fl_RX11_16 rfl ?_
    refine gg_iconst (v := 4) hG dX11_does_22 (by decide) ?_
    refine gg_iald (j := 4) hG dX11_does_23 (by decide) rfl (gg_vin (by decide +kernel)) (by decide) ?_
    refine gg_iconst (v := 5) hG dX11_does_24 (by decide) ?_
    refine gg_idiv hG dX11_does_25 (by decide) ?_
    refine gg_iadd hG dX11_does_26 ?_
    refine gg_goto (tgt := 31) hG dX11_does_27 (by decide) ?_
    refine gg_mk hG [true, false, false, true, true, false, false] rfl ?_
    exact m_X11_does_c31 hG h
theorem mt_X11_does {a1 : Int32} {a2 : Int32} {a3 : Int32}  {u : gg_M} {Q : Int32 → gg_M → Prop} (h : w_X11_does a1 a2 a3 u Q) : gg_Mt 3 yX11_does cX11_does 7 (some .int) [.ref 1, .int a1, .int a2, .int a3] u (gg_eI Q) :=
  gg_intro (own := RX11) (by decide +kernel) rfl rfl (Nat.le_of_ble_eq_true rfl) (fun G hG => m_X11_does hG  h)
/-! X11_ahead -/
def w_X11_ahead_c19  (u : gg_M)  (Q : Int32 → gg_M → Prop) : Prop :=
  Q (-2) u
set_option maxRecDepth 10000 in
theorem m_X11_ahead_c19  {u : gg_M}  {G : gg_T} {Q : Int32 → gg_M → Prop} (hG : gg_Cl none cX11_ahead 4 RX11 (some .int) 2 (gg_eI Q) G)  (h : w_X11_ahead_c19  u  Q)   : G 19 [none, none, none, none] [] u := by
  unfold w_X11_ahead_c19 at h
  refine gg_bipush (v := (-2)) hG dX11_ahead_19 (by decide) ?_
  exact gg_iret hG dX11_ahead_21 rfl rfl ⟨_, rfl, h⟩
def w_X11_ahead (a1 : Int32) (a2 : Int32) (u : gg_M)  (Q : Int32 → gg_M → Prop) : Prop :=
  w_X11_in a1 0 4 u (fun v2 u1 =>
  (v2 = 0 →
   w_X11_ahead_c19 u1 Q) ∧
  (¬ v2 = 0 →
   w_X11_in a2 0 16 u1 (fun v5 u4 =>
   (¬ v5 = 0 →
    vp_in a1 5 ∧
    ∀ v8 : Int32, v8 = (u4.1 52 a1.toNatClampNeg) →
    vp_in a1 5 ∧
    ∀ u10 : gg_M, u10 = gg_wI u4 52 a1.toNatClampNeg a2 →
    Q v8 u10) ∧
   (v5 = 0 →
    w_X11_ahead_c19 u4 Q))))
set_option maxRecDepth 10000 in
theorem m_X11_ahead {a1 : Int32} {a2 : Int32} {u : gg_M}  {G : gg_T} {Q : Int32 → gg_M → Prop} (hG : gg_Cl none cX11_ahead 4 RX11 (some .int) 2 (gg_eI Q) G)  (h : w_X11_ahead a1 a2 u  Q)   : G 0 [some (.ref 1), some (.int a1), some (.int a2), none] [] u := by
  unfold w_X11_ahead at h
  refine gg_iload_n hG dX11_ahead_0 rfl rfl ?_
  refine gg_iconst (v := 0) hG dX11_ahead_1 (by decide) ?_
  refine gg_iconst (v := 4) hG dX11_ahead_2 (by decide) ?_
  refine gg_xs (As := [.int a1, .int 0, .int 4]) (st := []) hG dX11_ahead_3 ml_RX11_68 Y_X11_in YS_X11_in (mt_X11_in h) rfl (by decide) (Nat.le_of_ble_eq_true rfl) rfl (gg_ki (fun v2 u1 h => ?_))
  refine gg_if_eq (tgt := 19) hG dX11_ahead_6 (by decide) (fun c3 => ?_) (fun c3 => ?_)
  · replace h := h.1 c3
    refine gg_mk hG [false, false, false, false] rfl ?_
    exact m_X11_ahead_c19 hG h
  · replace h := h.2 c3
    refine gg_iload_n hG dX11_ahead_9 rfl rfl ?_
    refine gg_iconst (v := 0) hG dX11_ahead_10 (by decide) ?_
    refine gg_bipush (v := 16) hG dX11_ahead_11 (by decide) ?_
    refine gg_xs (As := [.int a2, .int 0, .int 16]) (st := []) hG dX11_ahead_13 ml_RX11_68 Y_X11_in YS_X11_in (mt_X11_in h) rfl (by decide) (Nat.le_of_ble_eq_true rfl) rfl (gg_ki (fun v5 u4 h => ?_))
    refine gg_if_ne (tgt := 22) hG dX11_ahead_16 (by decide) (fun c6 => ?_) (fun c6 => ?_)
    · replace h := h.1 c6
      refine gg_aload_n hG dX11_ahead_22 rfl rfl ?_
      refine gg_get (v := .ref 52) hG dX11_ahead_23 (by decide) rfl fl_RX11_25 rfl ?_
      refine gg_iload_n hG dX11_ahead_26 rfl rfl ?_
      obtain ⟨h7, h⟩ := h
      refine gg_iald (j := a1.toNatClampNeg) hG dX11_ahead_27 (by decide) rfl h7 rfl ?_
      refine gg_ni (fun v8 e8 => ?_)
      replace h := h v8 e8
      refine gg_istore_n (L1 := [some (.ref 1), some (.int a1), some (.int a2), some (.int v8)]) hG dX11_ahead_28 rfl (by decide) rfl ?_
      refine gg_aload_n hG dX11_ahead_29 rfl rfl ?_
      refine gg_get (v := .ref 52) hG dX11_ahead_30 (by decide) rfl fl_RX11_25 rfl ?_
      refine gg_iload_n hG dX11_ahead_33 rfl rfl ?_
      refine gg_iload_n hG dX11_ahead_34 rfl rfl ?_
      obtain ⟨h9, h⟩ := h
      refine gg_iast (j := a1.toNatClampNeg) hG dX11_ahead_35 (by decide) rfl h9 rfl ?_
      refine gg_nu (fun u10 eu10 => ?_)
      replace h := h u10 eu10
      refine gg_iload_n hG dX11_ahead_36 rfl rfl ?_
      exact gg_iret hG dX11_ahead_37 rfl rfl ⟨_, rfl, h⟩
    · replace h := h.2 c6
      refine gg_mk hG [false, false, false, false] rfl ?_
      exact m_X11_ahead_c19 hG h
theorem mt_X11_ahead {a1 : Int32} {a2 : Int32}  {u : gg_M} {Q : Int32 → gg_M → Prop} (h : w_X11_ahead a1 a2 u Q) : gg_Mt 2 yX11_ahead cX11_ahead 4 (some .int) [.ref 1, .int a1, .int a2] u (gg_eI Q) :=
  gg_intro (own := RX11) (by decide +kernel) rfl rfl (Nat.le_of_ble_eq_true rfl) (fun G hG => m_X11_ahead hG  h)
/-! X11_more -/
def w_X11_more_c20  (u : gg_M)  (Q : Int32 → gg_M → Prop) : Prop :=
  Q (-2) u
set_option maxRecDepth 10000 in
theorem m_X11_more_c20  {u : gg_M}  {G : gg_T} {Q : Int32 → gg_M → Prop} (hG : gg_Cl none cX11_more 3 RX11 (some .int) 2 (gg_eI Q) G)  (h : w_X11_more_c20  u  Q)   : G 20 [none, none, none] [] u := by
  unfold w_X11_more_c20 at h
  refine gg_bipush (v := (-2)) hG dX11_more_20 (by decide) ?_
  exact gg_iret hG dX11_more_22 rfl rfl ⟨_, rfl, h⟩
def w_X11_more (a1 : Int32) (a2 : Int32) (u : gg_M)  (Q : Int32 → gg_M → Prop) : Prop :=
  w_X11_in a1 0 9 u (fun v2 u1 =>
  (v2 = 0 →
   w_X11_more_c20 u1 Q) ∧
  (¬ v2 = 0 →
   w_X11_in a2 0 6 u1 (fun v5 u4 =>
   (¬ v5 = 0 →
    (¬ (u4.1 1 8) = 24 →
     vp_in (u4.1 1 8) 24 ∧
     ∀ u9 : gg_M, u9 = gg_wI u4 53 ((u4.1 1 8).toNatClampNeg) a1 →
     vp_in (u9.1 1 8) 24 ∧
     ∀ u11 : gg_M, u11 = gg_wI u9 54 ((u9.1 1 8).toNatClampNeg) a2 →
     ∀ u12 : gg_M, u12 = gg_wI u11 1 8 ((u11.1 1 8) + 1) →
     Q (u12.1 1 8) u12) ∧
    ((u4.1 1 8) = 24 →
     Q (-4) u4)) ∧
   (v5 = 0 →
    w_X11_more_c20 u4 Q))))
set_option maxRecDepth 10000 in
theorem m_X11_more {a1 : Int32} {a2 : Int32} {u : gg_M}  {G : gg_T} {Q : Int32 → gg_M → Prop} (hG : gg_Cl none cX11_more 3 RX11 (some .int) 2 (gg_eI Q) G)  (h : w_X11_more a1 a2 u  Q)   : G 0 [some (.ref 1), some (.int a1), some (.int a2)] [] u := by
  unfold w_X11_more at h
  refine gg_iload_n hG dX11_more_0 rfl rfl ?_
  refine gg_iconst (v := 0) hG dX11_more_1 (by decide) ?_
  refine gg_bipush (v := 9) hG dX11_more_2 (by decide) ?_
  refine gg_xs (As := [.int a1, .int 0, .int 9]) (st := []) hG dX11_more_4 ml_RX11_68 Y_X11_in YS_X11_in (mt_X11_in h) rfl (by decide) (Nat.le_of_ble_eq_true rfl) rfl (gg_ki (fun v2 u1 h => ?_))
  refine gg_if_eq (tgt := 20) hG dX11_more_7 (by decide) (fun c3 => ?_) (fun c3 => ?_)
  · replace h := h.1 c3
    refine gg_mk hG [false, false, false] rfl ?_
    exact m_X11_more_c20 hG h
  · replace h := h.2 c3
    refine gg_iload_n hG dX11_more_10 rfl rfl ?_
    refine gg_iconst (v := 0) hG dX11_more_11 (by decide) ?_
    refine gg_bipush (v := 6) hG dX11_more_12 (by decide) ?_
    refine gg_xs (As := [.int a2, .int 0, .int 6]) (st := []) hG dX11_more_14 ml_RX11_68 Y_X11_in YS_X11_in (mt_X11_in h) rfl (by decide) (Nat.le_of_ble_eq_true rfl) rfl (gg_ki (fun v5 u4 h => ?_))
    refine gg_if_ne (tgt := 23) hG dX11_more_17 (by decide) (fun c6 => ?_) (fun c6 => ?_)
    · replace h := h.1 c6
      refine gg_aload_n hG dX11_more_23 rfl rfl ?_
      refine gg_get (v := .int (u4.1 1 8)) hG dX11_more_24 (by decide) rfl fl_RX11_123 rfl ?_
      refine gg_bipush (v := 24) hG dX11_more_27 (by decide) ?_
      refine gg_ic_ne (tgt := 35) hG dX11_more_29 (by decide) (fun c7 => ?_) (fun c7 => ?_)
      · replace h := h.1 c7
        refine gg_aload_n hG dX11_more_35 rfl rfl ?_
        refine gg_get (v := .ref 53) hG dX11_more_36 (by decide) rfl fl_RX11_28 rfl ?_
        refine gg_aload_n hG dX11_more_39 rfl rfl ?_
        refine gg_get (v := .int (u4.1 1 8)) hG dX11_more_40 (by decide) rfl fl_RX11_123 rfl ?_
        refine gg_iload_n hG dX11_more_43 rfl rfl ?_
        obtain ⟨h8, h⟩ := h
        refine gg_iast (j := (u4.1 1 8).toNatClampNeg) hG dX11_more_44 (by decide) rfl h8 rfl ?_
        refine gg_nu (fun u9 eu9 => ?_)
        replace h := h u9 eu9
        refine gg_aload_n hG dX11_more_45 rfl rfl ?_
        refine gg_get (v := .ref 54) hG dX11_more_46 (by decide) rfl fl_RX11_31 rfl ?_
        refine gg_aload_n hG dX11_more_49 rfl rfl ?_
        refine gg_get (v := .int (u9.1 1 8)) hG dX11_more_50 (by decide) rfl fl_RX11_123 rfl ?_
        refine gg_iload_n hG dX11_more_53 rfl rfl ?_
        obtain ⟨h10, h⟩ := h
        refine gg_iast (j := (u9.1 1 8).toNatClampNeg) hG dX11_more_54 (by decide) rfl h10 rfl ?_
        refine gg_nu (fun u11 eu11 => ?_)
        replace h := h u11 eu11
        refine gg_aload_n hG dX11_more_55 rfl rfl ?_
        refine gg_dup hG dX11_more_56 rfl ?_
        refine gg_get (v := .int (u11.1 1 8)) hG dX11_more_57 (by decide) rfl fl_RX11_123 rfl ?_
        refine gg_iconst (v := 1) hG dX11_more_60 (by decide) ?_
        refine gg_iadd hG dX11_more_61 ?_
        refine gg_putI hG dX11_more_62 (by decide) rfl fp_RX11_123 rfl rfl rfl ?_
        refine gg_nu (fun u12 eu12 => ?_)
        replace h := h u12 eu12
        refine gg_aload_n hG dX11_more_65 rfl rfl ?_
        refine gg_get (v := .int (u12.1 1 8)) hG dX11_more_66 (by decide) rfl fl_RX11_123 rfl ?_
        exact gg_iret hG dX11_more_69 rfl rfl ⟨_, rfl, h⟩
      · replace h := h.2 c7
        refine gg_bipush (v := (-4)) hG dX11_more_32 (by decide) ?_
        exact gg_iret hG dX11_more_34 rfl rfl ⟨_, rfl, h⟩
    · replace h := h.2 c6
      refine gg_mk hG [false, false, false] rfl ?_
      exact m_X11_more_c20 hG h
theorem mt_X11_more {a1 : Int32} {a2 : Int32}  {u : gg_M} {Q : Int32 → gg_M → Prop} (h : w_X11_more a1 a2 u Q) : gg_Mt 2 yX11_more cX11_more 3 (some .int) [.ref 1, .int a1, .int a2] u (gg_eI Q) :=
  gg_intro (own := RX11) (by decide +kernel) rfl rfl (Nat.le_of_ble_eq_true rfl) (fun G hG => m_X11_more hG  h)
/-! X11_see -/
def w_X11_see (a1 : Int32) (a2 : Int32) (u : gg_M)  (Q : Int32 → gg_M → Prop) : Prop :=
  w_X11_more a1 a2 u (fun v2 u1 =>
  Q v2 u1)
set_option maxRecDepth 10000 in
theorem m_X11_see {a1 : Int32} {a2 : Int32} {u : gg_M}  {G : gg_T} {Q : Int32 → gg_M → Prop} (hG : gg_Cl none cX11_see 3 RX11 (some .int) 3 (gg_eI Q) G)  (h : w_X11_see a1 a2 u  Q)   : G 0 [some (.ref 1), some (.int a1), some (.int a2)] [] u := by
  unfold w_X11_see at h
  refine gg_aload_n hG dX11_see_0 rfl rfl ?_
  refine gg_iload_n hG dX11_see_1 rfl rfl ?_
  refine gg_iload_n hG dX11_see_2 rfl rfl ?_
  refine gg_xv (As := [.int a1, .int a2]) (st := []) hG dX11_see_3 ml_RX11_126 Y_X11_more YV_X11_more (by decide) ⟨_, rfl, rfl⟩ (mt_X11_more h) rfl (by decide) (Nat.le_of_ble_eq_true rfl) rfl (gg_ki (fun v2 u1 h => ?_))
  exact gg_iret hG dX11_see_6 rfl rfl ⟨_, rfl, h⟩
theorem mt_X11_see {a1 : Int32} {a2 : Int32}  {u : gg_M} {Q : Int32 → gg_M → Prop} (h : w_X11_see a1 a2 u Q) : gg_Mt 3 yX11_see cX11_see 3 (some .int) [.ref 1, .int a1, .int a2] u (gg_eI Q) :=
  gg_intro (own := RX11) (by decide +kernel) rfl rfl (Nat.le_of_ble_eq_true rfl) (fun G hG => m_X11_see hG  h)
/-! X11_isSheet -/
def w_X11_isSheet (a0 : Int32) (u : gg_M)  (Q : Int32 → gg_M → Prop) : Prop :=
  w_X11_in a0 0 3 u (fun v2 u1 =>
  (v2 = 0 ∨ v2 = 1) ∧
  Q v2 u1)
set_option maxRecDepth 10000 in
theorem m_X11_isSheet {a0 : Int32} {u : gg_M}  {G : gg_T} {Q : Int32 → gg_M → Prop} (hG : gg_Cl none cX11_isSheet 1 RX11 (some .boolean) 2 (gg_eI Q) G)  (h : w_X11_isSheet a0 u  Q)   : G 0 [some (.int a0)] [] u := by
  unfold w_X11_isSheet at h
  refine gg_iload_n hG dX11_isSheet_0 rfl rfl ?_
  refine gg_iconst (v := 0) hG dX11_isSheet_1 (by decide) ?_
  refine gg_iconst (v := 3) hG dX11_isSheet_2 (by decide) ?_
  refine gg_xs (As := [.int a0, .int 0, .int 3]) (st := []) hG dX11_isSheet_3 ml_RX11_68 Y_X11_in YS_X11_in (mt_X11_in h) rfl (by decide) (Nat.le_of_ble_eq_true rfl) rfl (gg_ki (fun v2 u1 h => ?_))
  obtain ⟨h3, h⟩ := h
  exact gg_iret hG dX11_isSheet_6 rfl (gg_nb h3).1 ⟨_, rfl, h⟩
theorem mt_X11_isSheet {a0 : Int32}  {u : gg_M} {Q : Int32 → gg_M → Prop} (h : w_X11_isSheet a0 u Q) : gg_Mt 2 yX11_isSheet cX11_isSheet 1 (some .boolean) [.int a0] u (gg_eI Q) :=
  gg_intro (own := RX11) (by decide +kernel) rfl rfl (Nat.le_of_ble_eq_true rfl) (fun G hG => m_X11_isSheet hG  h)
/-! X11_meets -/
def w_X11_meets (a1 : Int32) (u : gg_M)  (Q : Int32 → gg_M → Prop) : Prop :=
  ∀ u1 : gg_M, u1 = gg_wI u 1 24 a1 →
  Q (((-10) : Int32) - a1) u1
set_option maxRecDepth 10000 in
theorem m_X11_meets {a1 : Int32} {u : gg_M}  {G : gg_T} {Q : Int32 → gg_M → Prop} (hG : gg_Cl none cX11_meets 2 RX11 (some .int) 1 (gg_eI Q) G)  (h : w_X11_meets a1 u  Q)   : G 0 [some (.ref 1), some (.int a1)] [] u := by
  unfold w_X11_meets at h
  refine gg_aload_n hG dX11_meets_0 rfl rfl ?_
  refine gg_iload_n hG dX11_meets_1 rfl rfl ?_
  refine gg_putI hG dX11_meets_2 (by decide) rfl fp_RX11_245 rfl rfl rfl ?_
  refine gg_nu (fun u1 eu1 => ?_)
  replace h := h u1 eu1
  refine gg_bipush (v := (-10)) hG dX11_meets_5 (by decide) ?_
  refine gg_iload_n hG dX11_meets_7 rfl rfl ?_
  refine gg_isub hG dX11_meets_8 ?_
  exact gg_iret hG dX11_meets_9 rfl rfl ⟨_, rfl, h⟩
theorem mt_X11_meets {a1 : Int32}  {u : gg_M} {Q : Int32 → gg_M → Prop} (h : w_X11_meets a1 u Q) : gg_Mt 1 yX11_meets cX11_meets 2 (some .int) [.ref 1, .int a1] u (gg_eI Q) :=
  gg_intro (own := RX11) (by decide +kernel) rfl rfl (Nat.le_of_ble_eq_true rfl) (fun G hG => m_X11_meets hG  h)
/-! X11_read -/
def b_X11_read_c27 (a1 : Int32) (a2 : Int32) (u : gg_M)  (k27 : Int32 × gg_M → Prop) (Q : Int32 → gg_M → Prop) : Prop :=
  vp_in a1 4 ∧
  ((u.1 62 a1.toNatClampNeg) ≤ (((2 : Int32) * a2) + 1) →
   Q a2 u) ∧
  (¬ (u.1 62 a1.toNatClampNeg) ≤ (((2 : Int32) * a2) + 1) →
   vp_in (((48 : Int32) * a1) + ((2 : Int32) * a2)) 192 ∧
   vp_in ((((48 : Int32) * a1) + ((2 : Int32) * a2)) + 1) 192 ∧
   w_X11_more (u.1 63 ((((48 : Int32) * a1) + ((2 : Int32) * a2)).toNatClampNeg)) (u.1 63 (((((48 : Int32) * a1) + ((2 : Int32) * a2)) + 1).toNatClampNeg)) u (fun v6 u5 =>
   (0 ≤ v6 →
    k27 ((a2 + 1), u5)) ∧
   (¬ 0 ≤ v6 →
    Q a2 u5)))
set_option maxRecDepth 10000 in
theorem mb_X11_read_c27 {a1 : Int32} {a2 : Int32} {u : gg_M}  {k27 : Int32 × gg_M → Prop} {G : gg_T} {Q : Int32 → gg_M → Prop} (hG : gg_Cl none cX11_read 3 RX11 (some .int) 3 (gg_eI Q) G)  (h : b_X11_read_c27 a1 a2 u k27 Q)   (hk27 : ∀ s : Int32 × gg_M, k27 s → G 27 [some (.ref 1), some (.int a1), some (.int s.1)] [] s.2) : G 27 [some (.ref 1), some (.int a1), some (.int a2)] [] u := by
  unfold b_X11_read_c27 at h
  refine gg_iconst (v := 2) hG dX11_read_27 (by decide) ?_
  refine gg_iload_n hG dX11_read_28 rfl rfl ?_
  refine gg_imul hG dX11_read_29 ?_
  refine gg_iconst (v := 1) hG dX11_read_30 (by decide) ?_
  refine gg_iadd hG dX11_read_31 ?_
  refine gg_aload_n hG dX11_read_32 rfl rfl ?_
  refine gg_get (v := .ref 62) hG dX11_read_33 (by decide) rfl fl_RX11_57 rfl ?_
  refine gg_iload_n hG dX11_read_36 rfl rfl ?_
  obtain ⟨h1, h⟩ := h
  refine gg_iald (j := a1.toNatClampNeg) hG dX11_read_37 (by decide) rfl h1 rfl ?_
  refine gg_ic_ge (tgt := 84) hG dX11_read_38 (by decide) (fun c2 => ?_) (fun c2 => ?_)
  · replace h := h.1 c2
    refine gg_iload_n hG dX11_read_84 rfl rfl ?_
    exact gg_iret hG dX11_read_85 rfl rfl ⟨_, rfl, h⟩
  · replace h := h.2 c2
    refine gg_aload_n hG dX11_read_41 rfl rfl ?_
    refine gg_aload_n hG dX11_read_42 rfl rfl ?_
    refine gg_get (v := .ref 63) hG dX11_read_43 (by decide) rfl fl_RX11_60 rfl ?_
    refine gg_bipush (v := 48) hG dX11_read_46 (by decide) ?_
    refine gg_iload_n hG dX11_read_48 rfl rfl ?_
    refine gg_imul hG dX11_read_49 ?_
    refine gg_iconst (v := 2) hG dX11_read_50 (by decide) ?_
    refine gg_iload_n hG dX11_read_51 rfl rfl ?_
    refine gg_imul hG dX11_read_52 ?_
    refine gg_iadd hG dX11_read_53 ?_
    obtain ⟨h3, h⟩ := h
    refine gg_iald (j := (((48 : Int32) * a1) + ((2 : Int32) * a2)).toNatClampNeg) hG dX11_read_54 (by decide) rfl h3 rfl ?_
    refine gg_aload_n hG dX11_read_55 rfl rfl ?_
    refine gg_get (v := .ref 63) hG dX11_read_56 (by decide) rfl fl_RX11_60 rfl ?_
    refine gg_bipush (v := 48) hG dX11_read_59 (by decide) ?_
    refine gg_iload_n hG dX11_read_61 rfl rfl ?_
    refine gg_imul hG dX11_read_62 ?_
    refine gg_iconst (v := 2) hG dX11_read_63 (by decide) ?_
    refine gg_iload_n hG dX11_read_64 rfl rfl ?_
    refine gg_imul hG dX11_read_65 ?_
    refine gg_iadd hG dX11_read_66 ?_
    refine gg_iconst (v := 1) hG dX11_read_67 (by decide) ?_
    refine gg_iadd hG dX11_read_68 ?_
    obtain ⟨h4, h⟩ := h
    refine gg_iald (j := ((((48 : Int32) * a1) + ((2 : Int32) * a2)) + 1).toNatClampNeg) hG dX11_read_69 (by decide) rfl h4 rfl ?_
    refine gg_xv (As := [.int (u.1 63 ((((48 : Int32) * a1) + ((2 : Int32) * a2)).toNatClampNeg)), .int (u.1 63 (((((48 : Int32) * a1) + ((2 : Int32) * a2)) + 1).toNatClampNeg))]) (st := []) hG dX11_read_70 ml_RX11_126 Y_X11_more YV_X11_more (by decide) ⟨_, rfl, rfl⟩ (mt_X11_more h) rfl (by decide) (Nat.le_of_ble_eq_true rfl) rfl (gg_ki (fun v6 u5 h => ?_))
    refine gg_if_ge (tgt := 78) hG dX11_read_73 (by decide) (fun c7 => ?_) (fun c7 => ?_)
    · replace h := h.1 c7
      refine gg_iinc (v := (a2 + 1)) (L1 := [some (.ref 1), some (.int a1), some (.int (a2 + 1))]) hG dX11_read_78 rfl rfl (by decide) rfl ?_
      refine gg_goto (tgt := 27) hG dX11_read_81 (by decide) ?_
      exact hk27 _ h
    · replace h := h.2 c7
      refine gg_iload_n hG dX11_read_76 rfl rfl ?_
      exact gg_iret hG dX11_read_77 rfl rfl ⟨_, rfl, h⟩
def w_X11_read_c27 (a1 : Int32) (a2 : Int32) (u : gg_M)  (Q : Int32 → gg_M → Prop) : Prop :=
  gg_loop (fun (s : Int32 × gg_M) k27 => b_X11_read_c27 a1 s.1 s.2  k27 Q) (a2, u)
set_option maxRecDepth 10000 in
theorem m_X11_read_c27 {a1 : Int32} {a2 : Int32} {u : gg_M}  {G : gg_T} {Q : Int32 → gg_M → Prop} (hG : gg_Cl none cX11_read 3 RX11 (some .int) 3 (gg_eI Q) G)  (h : w_X11_read_c27 a1 a2 u  Q)   : G 27 [some (.ref 1), some (.int a1), some (.int a2)] [] u :=
  gg_loop_use (P := fun s : Int32 × gg_M => G 27 [some (.ref 1), some (.int a1), some (.int s.1)] [] s.2) h (fun s rc hb hr => mb_X11_read_c27 hG  hb   hr)
def w_X11_read (a1 : Int32) (u : gg_M)  (Q : Int32 → gg_M → Prop) : Prop :=
  w_X11_isSheet a1 u (fun v9 u8 =>
  (¬ v9 = 0 →
   vp_in a1 4 ∧
   (¬ (u8.1 60 a1.toNatClampNeg) = 0 →
    w_X11_read_c27 a1 0 u8 Q) ∧
   ((u8.1 60 a1.toNatClampNeg) = 0 →
    w_X11_meets 1 u8 (fun v14 u13 =>
    Q v14 u13))) ∧
  (v9 = 0 →
   Q (-2) u8))
set_option maxRecDepth 10000 in
theorem m_X11_read {a1 : Int32} {u : gg_M}  {G : gg_T} {Q : Int32 → gg_M → Prop} (hG : gg_Cl none cX11_read 3 RX11 (some .int) 3 (gg_eI Q) G)  (h : w_X11_read a1 u  Q)   : G 0 [some (.ref 1), some (.int a1), none] [] u := by
  unfold w_X11_read at h
  refine gg_iload_n hG dX11_read_0 rfl rfl ?_
  refine gg_xs (As := [.int a1]) (st := []) hG dX11_read_1 ml_RX11_129 Y_X11_isSheet YS_X11_isSheet (mt_X11_isSheet h) rfl (by decide) (Nat.le_of_ble_eq_true rfl) rfl (gg_ki (fun v9 u8 h => ?_))
  refine gg_if_ne (tgt := 10) hG dX11_read_4 (by decide) (fun c10 => ?_) (fun c10 => ?_)
  · replace h := h.1 c10
    refine gg_aload_n hG dX11_read_10 rfl rfl ?_
    refine gg_get (v := .ref 60) hG dX11_read_11 (by decide) rfl fl_RX11_50 rfl ?_
    refine gg_iload_n hG dX11_read_14 rfl rfl ?_
    obtain ⟨h11, h⟩ := h
    refine gg_zald (j := a1.toNatClampNeg) hG dX11_read_15 (by decide) rfl h11 rfl ?_
    refine gg_if_ne (tgt := 25) hG dX11_read_16 (by decide) (fun c12 => ?_) (fun c12 => ?_)
    · replace h := h.1 c12
      refine gg_iconst (v := 0) hG dX11_read_25 (by decide) ?_
      refine gg_istore_n (L1 := [some (.ref 1), some (.int a1), some (.int 0)]) hG dX11_read_26 rfl (by decide) rfl ?_
      exact m_X11_read_c27 hG h
    · replace h := h.2 c12
      refine gg_aload_n hG dX11_read_19 rfl rfl ?_
      refine gg_iconst (v := 1) hG dX11_read_20 (by decide) ?_
      refine gg_xv (As := [.int 1]) (st := []) hG dX11_read_21 ml_RX11_132 Y_X11_meets YV_X11_meets (by decide) ⟨_, rfl, rfl⟩ (mt_X11_meets h) rfl (by decide) (Nat.le_of_ble_eq_true rfl) rfl (gg_ki (fun v14 u13 h => ?_))
      exact gg_iret hG dX11_read_24 rfl rfl ⟨_, rfl, h⟩
  · replace h := h.2 c10
    refine gg_bipush (v := (-2)) hG dX11_read_7 (by decide) ?_
    exact gg_iret hG dX11_read_9 rfl rfl ⟨_, rfl, h⟩
theorem mt_X11_read {a1 : Int32}  {u : gg_M} {Q : Int32 → gg_M → Prop} (h : w_X11_read a1 u Q) : gg_Mt 3 yX11_read cX11_read 3 (some .int) [.ref 1, .int a1] u (gg_eI Q) :=
  gg_intro (own := RX11) (by decide +kernel) rfl rfl (Nat.le_of_ble_eq_true rfl) (fun G hG => m_X11_read hG  h)
