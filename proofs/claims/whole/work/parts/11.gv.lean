/-! X1_weightRunning -/
def w_X1_weightRunning_c166 (a6 : Int32) (u : gg_M) (W : Int32 → Int32 → Int32 → Int32 → gg_M → (Int32 → gg_M → Prop) → Prop) (Q : Int32 → gg_M → Prop) : Prop :=
  Q a6 u
set_option maxRecDepth 10000 in
theorem m_X1_weightRunning_c166 {h0 : Nat} {a6 : Int32} {u : gg_M} {W : Int32 → Int32 → Int32 → Int32 → gg_M → (Int32 → gg_M → Prop) → Prop} {G : gg_T} {Q : Int32 → gg_M → Prop} (hG : gg_Cl none cX1_weightRunning 12 RX1 (some .int) (h0 + 5) (gg_eI Q) G)  (h : w_X1_weightRunning_c166 a6 u W Q) (hW : ∀ (x1 x2 x3 x4 : Int32) (u1 : gg_M) (Q1 : Int32 → gg_M → Prop), W x1 x2 x3 x4 u1 Q1 → gg_Mt (h0 + 4) yX1_weightRunning cX1_weightRunning 12 (some .int) [.ref 15, .ref 6, .int x1, .int x2, .int x3, .int x4] u1 (gg_eI Q1))  : G 166 [none, none, none, none, none, none, some (.int a6), none, none, none, none, none] [] u := by
  unfold w_X1_weightRunning_c166 at h
  refine gg_iload hG dX1_weightRunning_166 rfl ?_
  exact gg_iret hG dX1_weightRunning_168 rfl rfl ⟨_, rfl, h⟩
def w_X1_weightRunning_c160 (a2 : Int32) (a3 : Int32) (a4 : Int32) (a5 : Int32) (a6 : Int32) (a7 : Int32) (a8 : Int32) (u : gg_M) (W : Int32 → Int32 → Int32 → Int32 → gg_M → (Int32 → gg_M → Prop) → Prop) (k31 : Int32 × Int32 × gg_M → Prop) (Q : Int32 → gg_M → Prop) : Prop :=
  k31 (a6, (a8 + 1), u)
set_option maxRecDepth 10000 in
theorem m_X1_weightRunning_c160 {h0 : Nat} {a2 : Int32} {a3 : Int32} {a4 : Int32} {a5 : Int32} {a6 : Int32} {a7 : Int32} {a8 : Int32} {u : gg_M} {W : Int32 → Int32 → Int32 → Int32 → gg_M → (Int32 → gg_M → Prop) → Prop} {k31 : Int32 × Int32 × gg_M → Prop} {G : gg_T} {Q : Int32 → gg_M → Prop} (hG : gg_Cl none cX1_weightRunning 12 RX1 (some .int) (h0 + 5) (gg_eI Q) G)  (h : w_X1_weightRunning_c160 a2 a3 a4 a5 a6 a7 a8 u W k31 Q) (hW : ∀ (x1 x2 x3 x4 : Int32) (u1 : gg_M) (Q1 : Int32 → gg_M → Prop), W x1 x2 x3 x4 u1 Q1 → gg_Mt (h0 + 4) yX1_weightRunning cX1_weightRunning 12 (some .int) [.ref 15, .ref 6, .int x1, .int x2, .int x3, .int x4] u1 (gg_eI Q1)) (hk31 : ∀ s : Int32 × Int32 × gg_M, k31 s → G 31 [some (.ref 15), some (.ref 6), some (.int a2), some (.int a3), some (.int a4), some (.int a5), some (.int s.1), some (.int a7), some (.int s.2.1), none, none, none] [] s.2.2) : G 160 [some (.ref 15), some (.ref 6), some (.int a2), some (.int a3), some (.int a4), some (.int a5), some (.int a6), some (.int a7), some (.int a8), none, none, none] [] u := by
  unfold w_X1_weightRunning_c160 at h
  refine gg_iinc (v := (a8 + 1)) (L1 := [some (.ref 15), some (.ref 6), some (.int a2), some (.int a3), some (.int a4), some (.int a5), some (.int a6), some (.int a7), some (.int (a8 + 1)), none, none, none]) hG dX1_weightRunning_160 rfl rfl (by decide) rfl ?_
  refine gg_goto (tgt := 31) hG dX1_weightRunning_163 (by decide) ?_
  exact hk31 _ h
def w_X1_weightRunning_c140 (a2 : Int32) (a3 : Int32) (a4 : Int32) (a5 : Int32) (a6 : Int32) (a7 : Int32) (a8 : Int32) (a9 : Int32) (u : gg_M) (W : Int32 → Int32 → Int32 → Int32 → gg_M → (Int32 → gg_M → Prop) → Prop) (k31 : Int32 × Int32 × gg_M → Prop) (Q : Int32 → gg_M → Prop) : Prop :=
  (a9 ≤ a6 →
   w_X1_weightRunning_c160 a2 a3 a4 a5 a6 a7 a8 u W k31 Q) ∧
  (¬ a9 ≤ a6 →
   vp_in a4 3 ∧
   ∀ u3 : gg_M, u3 = gg_wI u 28 a4.toNatClampNeg a8 →
   w_X1_weightRunning_c160 a2 a3 a4 a5 a9 a7 a8 u3 W k31 Q)
set_option maxRecDepth 10000 in
theorem m_X1_weightRunning_c140 {h0 : Nat} {a2 : Int32} {a3 : Int32} {a4 : Int32} {a5 : Int32} {a6 : Int32} {a7 : Int32} {a8 : Int32} {a9 : Int32} {u : gg_M} {W : Int32 → Int32 → Int32 → Int32 → gg_M → (Int32 → gg_M → Prop) → Prop} {k31 : Int32 × Int32 × gg_M → Prop} {G : gg_T} {Q : Int32 → gg_M → Prop} (hG : gg_Cl none cX1_weightRunning 12 RX1 (some .int) (h0 + 5) (gg_eI Q) G)  (h : w_X1_weightRunning_c140 a2 a3 a4 a5 a6 a7 a8 a9 u W k31 Q) (hW : ∀ (x1 x2 x3 x4 : Int32) (u1 : gg_M) (Q1 : Int32 → gg_M → Prop), W x1 x2 x3 x4 u1 Q1 → gg_Mt (h0 + 4) yX1_weightRunning cX1_weightRunning 12 (some .int) [.ref 15, .ref 6, .int x1, .int x2, .int x3, .int x4] u1 (gg_eI Q1)) (hk31 : ∀ s : Int32 × Int32 × gg_M, k31 s → G 31 [some (.ref 15), some (.ref 6), some (.int a2), some (.int a3), some (.int a4), some (.int a5), some (.int s.1), some (.int a7), some (.int s.2.1), none, none, none] [] s.2.2) : G 140 [some (.ref 15), some (.ref 6), some (.int a2), some (.int a3), some (.int a4), some (.int a5), some (.int a6), some (.int a7), some (.int a8), some (.int a9), none, none] [] u := by
  unfold w_X1_weightRunning_c140 at h
  refine gg_iload hG dX1_weightRunning_140 rfl ?_
  refine gg_iload hG dX1_weightRunning_142 rfl ?_
  refine gg_ic_le (tgt := 160) hG dX1_weightRunning_144 (by decide) (fun c1 => ?_) (fun c1 => ?_)
  · replace h := h.1 c1
    refine gg_mk hG [true, true, true, true, true, true, true, true, true, false, false, false] rfl ?_
    exact m_X1_weightRunning_c160 hG h hW hk31
  · replace h := h.2 c1
    refine gg_iload hG dX1_weightRunning_147 rfl ?_
    refine gg_istore (L1 := [some (.ref 15), some (.ref 6), some (.int a2), some (.int a3), some (.int a4), some (.int a5), some (.int a9), some (.int a7), some (.int a8), some (.int a9), none, none]) hG dX1_weightRunning_149 (by decide) rfl ?_
    refine gg_aload_n hG dX1_weightRunning_151 rfl rfl ?_
    refine gg_get (v := .ref 28) hG dX1_weightRunning_152 (by decide) rfl fl_RX1_33 rfl ?_
    refine gg_iload hG dX1_weightRunning_155 rfl ?_
    refine gg_iload hG dX1_weightRunning_157 rfl ?_
    obtain ⟨h2, h⟩ := h
    refine gg_iast (j := a4.toNatClampNeg) hG dX1_weightRunning_159 (by decide) rfl h2 rfl ?_
    refine gg_nu (fun u3 eu3 => ?_)
    replace h := h u3 eu3
    refine gg_mk hG [true, true, true, true, true, true, true, true, true, false, false, false] rfl ?_
    exact m_X1_weightRunning_c160 hG h hW hk31
def w_X1_weightRunning_c134 (a2 : Int32) (a3 : Int32) (a4 : Int32) (a5 : Int32) (a6 : Int32) (a7 : Int32) (a8 : Int32) (a9 : Int32) (a10 : Int32) (u : gg_M) (W : Int32 → Int32 → Int32 → Int32 → gg_M → (Int32 → gg_M → Prop) → Prop) (k31 : Int32 × Int32 × gg_M → Prop) (k68 : Int32 × Int32 × gg_M → Prop) (Q : Int32 → gg_M → Prop) : Prop :=
  k68 (a9, (a10 + 1), u)
set_option maxRecDepth 10000 in
theorem m_X1_weightRunning_c134 {h0 : Nat} {a2 : Int32} {a3 : Int32} {a4 : Int32} {a5 : Int32} {a6 : Int32} {a7 : Int32} {a8 : Int32} {a9 : Int32} {a10 : Int32} {u : gg_M} {W : Int32 → Int32 → Int32 → Int32 → gg_M → (Int32 → gg_M → Prop) → Prop} {k31 : Int32 × Int32 × gg_M → Prop} {k68 : Int32 × Int32 × gg_M → Prop} {G : gg_T} {Q : Int32 → gg_M → Prop} (hG : gg_Cl none cX1_weightRunning 12 RX1 (some .int) (h0 + 5) (gg_eI Q) G)  (h : w_X1_weightRunning_c134 a2 a3 a4 a5 a6 a7 a8 a9 a10 u W k31 k68 Q) (hW : ∀ (x1 x2 x3 x4 : Int32) (u1 : gg_M) (Q1 : Int32 → gg_M → Prop), W x1 x2 x3 x4 u1 Q1 → gg_Mt (h0 + 4) yX1_weightRunning cX1_weightRunning 12 (some .int) [.ref 15, .ref 6, .int x1, .int x2, .int x3, .int x4] u1 (gg_eI Q1)) (hk31 : ∀ s : Int32 × Int32 × gg_M, k31 s → G 31 [some (.ref 15), some (.ref 6), some (.int a2), some (.int a3), some (.int a4), some (.int a5), some (.int s.1), some (.int a7), some (.int s.2.1), none, none, none] [] s.2.2) (hk68 : ∀ s : Int32 × Int32 × gg_M, k68 s → G 68 [some (.ref 15), some (.ref 6), some (.int a2), some (.int a3), some (.int a4), some (.int a5), some (.int a6), some (.int a7), some (.int a8), some (.int s.1), some (.int s.2.1), none] [] s.2.2) : G 134 [some (.ref 15), some (.ref 6), some (.int a2), some (.int a3), some (.int a4), some (.int a5), some (.int a6), some (.int a7), some (.int a8), some (.int a9), some (.int a10), none] [] u := by
  unfold w_X1_weightRunning_c134 at h
  refine gg_iinc (v := (a10 + 1)) (L1 := [some (.ref 15), some (.ref 6), some (.int a2), some (.int a3), some (.int a4), some (.int a5), some (.int a6), some (.int a7), some (.int a8), some (.int a9), some (.int (a10 + 1)), none]) hG dX1_weightRunning_134 rfl rfl (by decide) rfl ?_
  refine gg_goto (tgt := 68) hG dX1_weightRunning_137 (by decide) ?_
  exact hk68 _ h
def b_X1_weightRunning_c68 (a2 : Int32) (a3 : Int32) (a4 : Int32) (a5 : Int32) (a6 : Int32) (a7 : Int32) (a8 : Int32) (a9 : Int32) (a10 : Int32) (u : gg_M) (W : Int32 → Int32 → Int32 → Int32 → gg_M → (Int32 → gg_M → Prop) → Prop) (k31 : Int32 × Int32 × gg_M → Prop) (k68 : Int32 × Int32 × gg_M → Prop) (Q : Int32 → gg_M → Prop) : Prop :=
  (7 ≤ a10 →
   w_X1_weightRunning_c140 a2 a3 a4 a5 a6 a7 a8 a9 u W k31 Q) ∧
  (¬ 7 ≤ a10 →
   (a5 ≤ 1 →
    w_X1_weightRunning_c140 a2 a3 a4 a5 a6 a7 a8 a9 u W k31 Q) ∧
   (¬ a5 ≤ 1 →
    vp_in a4 3 ∧
    vp_in a10 (gg_al (gg_rf 18 a4.toNatClampNeg)) ∧
    ∀ v8 : Int32, v8 = (u.1 (gg_rf 18 a4.toNatClampNeg) a10.toNatClampNeg) →
    (a10 = 2 →
     w_X1_weightRunning_c134 a2 a3 a4 a5 a6 a7 a8 a9 a10 u W k31 k68 Q) ∧
    (¬ a10 = 2 →
     (v8 = 0 →
      w_X1_weightRunning_c134 a2 a3 a4 a5 a6 a7 a8 a9 a10 u W k31 k68 Q) ∧
     (¬ v8 = 0 →
      vp_in a4 3 ∧
      vp_in a10 (gg_al (gg_rf 22 a4.toNatClampNeg)) ∧
      W v8 (u.1 (gg_rf 22 a4.toNatClampNeg) a10.toNatClampNeg) (a4 + 1) (a5 - 1) u (fun v14 u13 =>
      ∀ v15 : Int32, v15 = (a9 + v14) →
      w_X1_weightRunning_c134 a2 a3 a4 a5 a6 a7 a8 v15 a10 u13 W k31 k68 Q)))))
set_option maxRecDepth 10000 in
theorem mb_X1_weightRunning_c68 {h0 : Nat} {a2 : Int32} {a3 : Int32} {a4 : Int32} {a5 : Int32} {a6 : Int32} {a7 : Int32} {a8 : Int32} {a9 : Int32} {a10 : Int32} {u : gg_M} {W : Int32 → Int32 → Int32 → Int32 → gg_M → (Int32 → gg_M → Prop) → Prop} {k31 : Int32 × Int32 × gg_M → Prop} {k68 : Int32 × Int32 × gg_M → Prop} {G : gg_T} {Q : Int32 → gg_M → Prop} (hG : gg_Cl none cX1_weightRunning 12 RX1 (some .int) (h0 + 5) (gg_eI Q) G)  (h : b_X1_weightRunning_c68 a2 a3 a4 a5 a6 a7 a8 a9 a10 u W k31 k68 Q) (hW : ∀ (x1 x2 x3 x4 : Int32) (u1 : gg_M) (Q1 : Int32 → gg_M → Prop), W x1 x2 x3 x4 u1 Q1 → gg_Mt (h0 + 4) yX1_weightRunning cX1_weightRunning 12 (some .int) [.ref 15, .ref 6, .int x1, .int x2, .int x3, .int x4] u1 (gg_eI Q1)) (hk31 : ∀ s : Int32 × Int32 × gg_M, k31 s → G 31 [some (.ref 15), some (.ref 6), some (.int a2), some (.int a3), some (.int a4), some (.int a5), some (.int s.1), some (.int a7), some (.int s.2.1), none, none, none] [] s.2.2) (hk68 : ∀ s : Int32 × Int32 × gg_M, k68 s → G 68 [some (.ref 15), some (.ref 6), some (.int a2), some (.int a3), some (.int a4), some (.int a5), some (.int a6), some (.int a7), some (.int a8), some (.int s.1), some (.int s.2.1), none] [] s.2.2) : G 68 [some (.ref 15), some (.ref 6), some (.int a2), some (.int a3), some (.int a4), some (.int a5), some (.int a6), some (.int a7), some (.int a8), some (.int a9), some (.int a10), none] [] u := by
  unfold b_X1_weightRunning_c68 at h
  refine gg_iload hG dX1_weightRunning_68 rfl ?_
  refine gg_bipush (v := 7) hG dX1_weightRunning_70 (by decide) ?_
  refine gg_ic_ge (tgt := 140) hG dX1_weightRunning_72 (by decide) (fun c4 => ?_) (fun c4 => ?_)
  · replace h := h.1 c4
    refine gg_mk hG [true, true, true, true, true, true, true, true, true, true, false, false] rfl ?_
    exact m_X1_weightRunning_c140 hG h hW hk31
  · replace h := h.2 c4
    refine gg_iload hG dX1_weightRunning_75 rfl ?_
    refine gg_iconst (v := 1) hG dX1_weightRunning_77 (by decide) ?_
    refine gg_ic_le (tgt := 140) hG dX1_weightRunning_78 (by decide) (fun c5 => ?_) (fun c5 => ?_)
    · replace h := h.1 c5
      refine gg_mk hG [true, true, true, true, true, true, true, true, true, true, false, false] rfl ?_
      exact m_X1_weightRunning_c140 hG h hW hk31
    · replace h := h.2 c5
      refine gg_aload_n hG dX1_weightRunning_81 rfl rfl ?_
      refine gg_get (v := .ref 18) hG dX1_weightRunning_82 (by decide) rfl fl_RX1_21 rfl ?_
      refine gg_iload hG dX1_weightRunning_85 rfl ?_
      obtain ⟨h6, h⟩ := h
      refine gg_aald (j := a4.toNatClampNeg) (r := (gg_rf 18 a4.toNatClampNeg)) hG dX1_weightRunning_87 (by decide) (Or.inr rfl) h6 rfl rfl ?_
      refine gg_iload hG dX1_weightRunning_88 rfl ?_
      obtain ⟨h7, h⟩ := h
      refine gg_iald (j := a10.toNatClampNeg) hG dX1_weightRunning_90 (gg_kd_lt (gg_rf18 h6) (by decide)) (gg_rf18 h6) h7 rfl ?_
      refine gg_ni (fun v8 e8 => ?_)
      replace h := h v8 e8
      refine gg_istore (L1 := [some (.ref 15), some (.ref 6), some (.int a2), some (.int a3), some (.int a4), some (.int a5), some (.int a6), some (.int a7), some (.int a8), some (.int a9), some (.int a10), some (.int v8)]) hG dX1_weightRunning_91 (by decide) rfl ?_
      refine gg_iload hG dX1_weightRunning_93 rfl ?_
      refine gg_iconst (v := 2) hG dX1_weightRunning_95 (by decide) ?_
      refine gg_ic_eq (tgt := 134) hG dX1_weightRunning_96 (by decide) (fun c9 => ?_) (fun c9 => ?_)
      · replace h := h.1 c9
        refine gg_mk hG [true, true, true, true, true, true, true, true, true, true, true, false] rfl ?_
        exact m_X1_weightRunning_c134 hG h hW hk31 hk68
      · replace h := h.2 c9
        refine gg_iload hG dX1_weightRunning_99 rfl ?_
        refine gg_if_eq (tgt := 134) hG dX1_weightRunning_101 (by decide) (fun c10 => ?_) (fun c10 => ?_)
        · replace h := h.1 c10
          refine gg_mk hG [true, true, true, true, true, true, true, true, true, true, true, false] rfl ?_
          exact m_X1_weightRunning_c134 hG h hW hk31 hk68
        · replace h := h.2 c10
          refine gg_iload hG dX1_weightRunning_104 rfl ?_
          refine gg_aload_n hG dX1_weightRunning_106 rfl rfl ?_
          refine gg_aload_n hG dX1_weightRunning_107 rfl rfl ?_
          refine gg_iload hG dX1_weightRunning_108 rfl ?_
          refine gg_aload_n hG dX1_weightRunning_110 rfl rfl ?_
          refine gg_get (v := .ref 22) hG dX1_weightRunning_111 (by decide) rfl fl_RX1_24 rfl ?_
          refine gg_iload hG dX1_weightRunning_114 rfl ?_
          obtain ⟨h11, h⟩ := h
          refine gg_aald (j := a4.toNatClampNeg) (r := (gg_rf 22 a4.toNatClampNeg)) hG dX1_weightRunning_116 (by decide) (Or.inr rfl) h11 rfl rfl ?_
          refine gg_iload hG dX1_weightRunning_117 rfl ?_
          obtain ⟨h12, h⟩ := h
          refine gg_iald (j := a10.toNatClampNeg) hG dX1_weightRunning_119 (gg_kd_lt (gg_rf22 h11) (by decide)) (gg_rf22 h11) h12 rfl ?_
          refine gg_iload hG dX1_weightRunning_120 rfl ?_
          refine gg_iconst (v := 1) hG dX1_weightRunning_122 (by decide) ?_
          refine gg_iadd hG dX1_weightRunning_123 ?_
          refine gg_iload hG dX1_weightRunning_124 rfl ?_
          refine gg_iconst (v := 1) hG dX1_weightRunning_126 (by decide) ?_
          refine gg_isub hG dX1_weightRunning_127 ?_
          refine gg_xv (As := [.ref 6, .int v8, .int (u.1 (gg_rf 22 a4.toNatClampNeg) a10.toNatClampNeg), .int (a4 + 1), .int (a5 - 1)]) (st := [.int a9]) hG dX1_weightRunning_128 ml_RX1_110 Y_X1_weightRunning YV_X1_weightRunning (by decide) ⟨_, rfl, rfl⟩ (hW _ _ _ _ _ _ h) rfl (by omega) (Nat.le_of_ble_eq_true rfl) rfl (gg_ki (fun v14 u13 h => ?_))
          refine gg_iadd hG dX1_weightRunning_131 ?_
          refine gg_ni (fun v15 e15 => ?_)
          replace h := h v15 e15
          refine gg_istore (L1 := [some (.ref 15), some (.ref 6), some (.int a2), some (.int a3), some (.int a4), some (.int a5), some (.int a6), some (.int a7), some (.int a8), some (.int v15), some (.int a10), some (.int v8)]) hG dX1_weightRunning_132 (by decide) rfl ?_
          refine gg_mk hG [true, true, true, true, true, true, true, true, true, true, true, false] rfl ?_
          exact m_X1_weightRunning_c134 hG h hW hk31 hk68
def w_X1_weightRunning_c68 (a2 : Int32) (a3 : Int32) (a4 : Int32) (a5 : Int32) (a6 : Int32) (a7 : Int32) (a8 : Int32) (a9 : Int32) (a10 : Int32) (u : gg_M) (W : Int32 → Int32 → Int32 → Int32 → gg_M → (Int32 → gg_M → Prop) → Prop) (k31 : Int32 × Int32 × gg_M → Prop) (Q : Int32 → gg_M → Prop) : Prop :=
  gg_loop (fun (s : Int32 × Int32 × gg_M) k68 => b_X1_weightRunning_c68 a2 a3 a4 a5 a6 a7 a8 s.1 s.2.1 s.2.2 W k31 k68 Q) (a9, a10, u)
set_option maxRecDepth 10000 in
theorem m_X1_weightRunning_c68 {h0 : Nat} {a2 : Int32} {a3 : Int32} {a4 : Int32} {a5 : Int32} {a6 : Int32} {a7 : Int32} {a8 : Int32} {a9 : Int32} {a10 : Int32} {u : gg_M} {W : Int32 → Int32 → Int32 → Int32 → gg_M → (Int32 → gg_M → Prop) → Prop} {k31 : Int32 × Int32 × gg_M → Prop} {G : gg_T} {Q : Int32 → gg_M → Prop} (hG : gg_Cl none cX1_weightRunning 12 RX1 (some .int) (h0 + 5) (gg_eI Q) G)  (h : w_X1_weightRunning_c68 a2 a3 a4 a5 a6 a7 a8 a9 a10 u W k31 Q) (hW : ∀ (x1 x2 x3 x4 : Int32) (u1 : gg_M) (Q1 : Int32 → gg_M → Prop), W x1 x2 x3 x4 u1 Q1 → gg_Mt (h0 + 4) yX1_weightRunning cX1_weightRunning 12 (some .int) [.ref 15, .ref 6, .int x1, .int x2, .int x3, .int x4] u1 (gg_eI Q1)) (hk31 : ∀ s : Int32 × Int32 × gg_M, k31 s → G 31 [some (.ref 15), some (.ref 6), some (.int a2), some (.int a3), some (.int a4), some (.int a5), some (.int s.1), some (.int a7), some (.int s.2.1), none, none, none] [] s.2.2) : G 68 [some (.ref 15), some (.ref 6), some (.int a2), some (.int a3), some (.int a4), some (.int a5), some (.int a6), some (.int a7), some (.int a8), some (.int a9), some (.int a10), none] [] u :=
  gg_loop_use (P := fun s : Int32 × Int32 × gg_M => G 68 [some (.ref 15), some (.ref 6), some (.int a2), some (.int a3), some (.int a4), some (.int a5), some (.int a6), some (.int a7), some (.int a8), some (.int s.1), some (.int s.2.1), none] [] s.2.2) h (fun s rc hb hr => mb_X1_weightRunning_c68 hG  hb hW hk31 hr)
def b_X1_weightRunning_c31 (a2 : Int32) (a3 : Int32) (a4 : Int32) (a5 : Int32) (a7 : Int32) (a6 : Int32) (a8 : Int32) (u : gg_M) (W : Int32 → Int32 → Int32 → Int32 → gg_M → (Int32 → gg_M → Prop) → Prop) (k31 : Int32 × Int32 × gg_M → Prop) (Q : Int32 → gg_M → Prop) : Prop :=
  (a7 ≤ a8 →
   w_X1_weightRunning_c166 a6 u W Q) ∧
  (¬ a7 ≤ a8 →
   (a3 ≤ a6 →
    w_X1_weightRunning_c166 a6 u W Q) ∧
   (¬ a3 ≤ a6 →
    w_X1_part a2 a8 a4 u (fun u18 =>
    vp_in a4 3 ∧
    vp_in 2 (gg_al (gg_rf 22 a4.toNatClampNeg)) ∧
    ∀ v21 : Int32, v21 = (u18.1 (gg_rf 22 a4.toNatClampNeg) 2) →
    w_X1_weightRunning_c68 a2 a3 a4 a5 a6 a7 a8 v21 0 u18 W k31 Q)))
set_option maxRecDepth 10000 in
theorem mb_X1_weightRunning_c31 {h0 : Nat} {a2 : Int32} {a3 : Int32} {a4 : Int32} {a5 : Int32} {a7 : Int32} {a6 : Int32} {a8 : Int32} {u : gg_M} {W : Int32 → Int32 → Int32 → Int32 → gg_M → (Int32 → gg_M → Prop) → Prop} {k31 : Int32 × Int32 × gg_M → Prop} {G : gg_T} {Q : Int32 → gg_M → Prop} (hG : gg_Cl none cX1_weightRunning 12 RX1 (some .int) (h0 + 5) (gg_eI Q) G)  (h : b_X1_weightRunning_c31 a2 a3 a4 a5 a7 a6 a8 u W k31 Q) (hW : ∀ (x1 x2 x3 x4 : Int32) (u1 : gg_M) (Q1 : Int32 → gg_M → Prop), W x1 x2 x3 x4 u1 Q1 → gg_Mt (h0 + 4) yX1_weightRunning cX1_weightRunning 12 (some .int) [.ref 15, .ref 6, .int x1, .int x2, .int x3, .int x4] u1 (gg_eI Q1))  (hk31 : ∀ s : Int32 × Int32 × gg_M, k31 s → G 31 [some (.ref 15), some (.ref 6), some (.int a2), some (.int a3), some (.int a4), some (.int a5), some (.int s.1), some (.int a7), some (.int s.2.1), none, none, none] [] s.2.2) : G 31 [some (.ref 15), some (.ref 6), some (.int a2), some (.int a3), some (.int a4), some (.int a5), some (.int a6), some (.int a7), some (.int a8), none, none, none] [] u := by
  unfold b_X1_weightRunning_c31 at h
  refine gg_iload hG dX1_weightRunning_31 rfl ?_
  refine gg_iload hG dX1_weightRunning_33 rfl ?_
  refine gg_ic_ge (tgt := 166) hG dX1_weightRunning_35 (by decide) (fun c16 => ?_) (fun c16 => ?_)
  · replace h := h.1 c16
    refine gg_mk hG [false, false, false, false, false, false, true, false, false, false, false, false] rfl ?_
    exact m_X1_weightRunning_c166 hG h hW
  · replace h := h.2 c16
    refine gg_iload hG dX1_weightRunning_38 rfl ?_
    refine gg_iload_n hG dX1_weightRunning_40 rfl rfl ?_
    refine gg_ic_ge (tgt := 166) hG dX1_weightRunning_41 (by decide) (fun c17 => ?_) (fun c17 => ?_)
    · replace h := h.1 c17
      refine gg_mk hG [false, false, false, false, false, false, true, false, false, false, false, false] rfl ?_
      exact m_X1_weightRunning_c166 hG h hW
    · replace h := h.2 c17
      refine gg_aload_n hG dX1_weightRunning_44 rfl rfl ?_
      refine gg_aload_n hG dX1_weightRunning_45 rfl rfl ?_
      refine gg_iload_n hG dX1_weightRunning_46 rfl rfl ?_
      refine gg_iload hG dX1_weightRunning_47 rfl ?_
      refine gg_iload hG dX1_weightRunning_49 rfl ?_
      refine gg_xv (As := [.ref 6, .int a2, .int a8, .int a4]) (st := []) hG dX1_weightRunning_51 ml_RX1_106 Y_X1_part YV_X1_part (by decide) ⟨_, rfl, rfl⟩ (mt_X1_part h) rfl (by omega) (Nat.le_of_ble_eq_true rfl) rfl (gg_kv (fun u18 h => ?_))
      refine gg_aload_n hG dX1_weightRunning_54 rfl rfl ?_
      refine gg_get (v := .ref 22) hG dX1_weightRunning_55 (by decide) rfl fl_RX1_24 rfl ?_
      refine gg_iload hG dX1_weightRunning_58 rfl ?_
      obtain ⟨h19, h⟩ := h
      refine gg_aald (j := a4.toNatClampNeg) (r := (gg_rf 22 a4.toNatClampNeg)) hG dX1_weightRunning_60 (by decide) (Or.inr rfl) h19 rfl rfl ?_
      refine gg_iconst (v := 2) hG dX1_weightRunning_61 (by decide) ?_
      obtain ⟨h20, h⟩ := h
      refine gg_iald (j := 2) hG dX1_weightRunning_62 (gg_kd_lt (gg_rf22 h19) (by decide)) (gg_rf22 h19) h20 (by decide) ?_
      refine gg_ni (fun v21 e21 => ?_)
      replace h := h v21 e21
      refine gg_istore (L1 := [some (.ref 15), some (.ref 6), some (.int a2), some (.int a3), some (.int a4), some (.int a5), some (.int a6), some (.int a7), some (.int a8), some (.int v21), none, none]) hG dX1_weightRunning_63 (by decide) rfl ?_
      refine gg_iconst (v := 0) hG dX1_weightRunning_65 (by decide) ?_
      refine gg_istore (L1 := [some (.ref 15), some (.ref 6), some (.int a2), some (.int a3), some (.int a4), some (.int a5), some (.int a6), some (.int a7), some (.int a8), some (.int v21), some (.int 0), none]) hG dX1_weightRunning_66 (by decide) rfl ?_
      exact m_X1_weightRunning_c68 hG h hW hk31
def w_X1_weightRunning_c31 (a2 : Int32) (a3 : Int32) (a4 : Int32) (a5 : Int32) (a6 : Int32) (a7 : Int32) (a8 : Int32) (u : gg_M) (W : Int32 → Int32 → Int32 → Int32 → gg_M → (Int32 → gg_M → Prop) → Prop) (Q : Int32 → gg_M → Prop) : Prop :=
  gg_loop (fun (s : Int32 × Int32 × gg_M) k31 => b_X1_weightRunning_c31 a2 a3 a4 a5 a7 s.1 s.2.1 s.2.2 W k31 Q) (a6, a8, u)
set_option maxRecDepth 10000 in
theorem m_X1_weightRunning_c31 {h0 : Nat} {a2 : Int32} {a3 : Int32} {a4 : Int32} {a5 : Int32} {a6 : Int32} {a7 : Int32} {a8 : Int32} {u : gg_M} {W : Int32 → Int32 → Int32 → Int32 → gg_M → (Int32 → gg_M → Prop) → Prop} {G : gg_T} {Q : Int32 → gg_M → Prop} (hG : gg_Cl none cX1_weightRunning 12 RX1 (some .int) (h0 + 5) (gg_eI Q) G)  (h : w_X1_weightRunning_c31 a2 a3 a4 a5 a6 a7 a8 u W Q) (hW : ∀ (x1 x2 x3 x4 : Int32) (u1 : gg_M) (Q1 : Int32 → gg_M → Prop), W x1 x2 x3 x4 u1 Q1 → gg_Mt (h0 + 4) yX1_weightRunning cX1_weightRunning 12 (some .int) [.ref 15, .ref 6, .int x1, .int x2, .int x3, .int x4] u1 (gg_eI Q1))  : G 31 [some (.ref 15), some (.ref 6), some (.int a2), some (.int a3), some (.int a4), some (.int a5), some (.int a6), some (.int a7), some (.int a8), none, none, none] [] u :=
  gg_loop_use (P := fun s : Int32 × Int32 × gg_M => G 31 [some (.ref 15), some (.ref 6), some (.int a2), some (.int a3), some (.int a4), some (.int a5), some (.int s.1), some (.int a7), some (.int s.2.1), none, none, none] [] s.2.2) h (fun s rc hb hr => mb_X1_weightRunning_c31 hG  hb hW  hr)
def w_X1_weightRunning_c26 (a2 : Int32) (a3 : Int32) (a4 : Int32) (a5 : Int32) (a6 : Int32) (z0 : Int32) (u : gg_M) (W : Int32 → Int32 → Int32 → Int32 → gg_M → (Int32 → gg_M → Prop) → Prop) (Q : Int32 → gg_M → Prop) : Prop :=
  w_X1_weightRunning_c31 a2 a3 a4 a5 a6 z0 0 u W Q
set_option maxRecDepth 10000 in
theorem m_X1_weightRunning_c26 {h0 : Nat} {a2 : Int32} {a3 : Int32} {a4 : Int32} {a5 : Int32} {a6 : Int32} {z0 : Int32} {u : gg_M} {W : Int32 → Int32 → Int32 → Int32 → gg_M → (Int32 → gg_M → Prop) → Prop} {G : gg_T} {Q : Int32 → gg_M → Prop} (hG : gg_Cl none cX1_weightRunning 12 RX1 (some .int) (h0 + 5) (gg_eI Q) G)  (h : w_X1_weightRunning_c26 a2 a3 a4 a5 a6 z0 u W Q) (hW : ∀ (x1 x2 x3 x4 : Int32) (u1 : gg_M) (Q1 : Int32 → gg_M → Prop), W x1 x2 x3 x4 u1 Q1 → gg_Mt (h0 + 4) yX1_weightRunning cX1_weightRunning 12 (some .int) [.ref 15, .ref 6, .int x1, .int x2, .int x3, .int x4] u1 (gg_eI Q1))  : G 26 [some (.ref 15), some (.ref 6), some (.int a2), some (.int a3), some (.int a4), some (.int a5), some (.int a6), none, none, none, none, none] [.int z0] u := by
  unfold w_X1_weightRunning_c26 at h
  refine gg_istore (L1 := [some (.ref 15), some (.ref 6), some (.int a2), some (.int a3), some (.int a4), some (.int a5), some (.int a6), some (.int z0), none, none, none, none]) hG dX1_weightRunning_26 (by decide) rfl ?_
  refine gg_iconst (v := 0) hG dX1_weightRunning_28 (by decide) ?_
  refine gg_istore (L1 := [some (.ref 15), some (.ref 6), some (.int a2), some (.int a3), some (.int a4), some (.int a5), some (.int a6), some (.int z0), some (.int 0), none, none, none]) hG dX1_weightRunning_29 (by decide) rfl ?_
  exact m_X1_weightRunning_c31 hG h hW
def w_X1_weightRunning (a2 : Int32) (a3 : Int32) (a4 : Int32) (a5 : Int32) (u : gg_M) (W : Int32 → Int32 → Int32 → Int32 → gg_M → (Int32 → gg_M → Prop) → Prop) (Q : Int32 → gg_M → Prop) : Prop :=
  w_X10_isBelow a4 3 u (fun v23 u22 =>
  (¬ v23 = 0 →
   (1 < a5 →
    w_X1_weightRunning_c26 a2 a3 a4 a5 (-1) 10 u22 W Q) ∧
   (¬ 1 < a5 →
    w_X1_weightRunning_c26 a2 a3 a4 a5 (-1) 4 u22 W Q)) ∧
  (v23 = 0 →
   Q 0 u22))
set_option maxRecDepth 10000 in
theorem m_X1_weightRunning {h0 : Nat} {a2 : Int32} {a3 : Int32} {a4 : Int32} {a5 : Int32} {u : gg_M} {W : Int32 → Int32 → Int32 → Int32 → gg_M → (Int32 → gg_M → Prop) → Prop} {G : gg_T} {Q : Int32 → gg_M → Prop} (hG : gg_Cl none cX1_weightRunning 12 RX1 (some .int) (h0 + 5) (gg_eI Q) G)  (h : w_X1_weightRunning a2 a3 a4 a5 u W Q) (hW : ∀ (x1 x2 x3 x4 : Int32) (u1 : gg_M) (Q1 : Int32 → gg_M → Prop), W x1 x2 x3 x4 u1 Q1 → gg_Mt (h0 + 4) yX1_weightRunning cX1_weightRunning 12 (some .int) [.ref 15, .ref 6, .int x1, .int x2, .int x3, .int x4] u1 (gg_eI Q1))  : G 0 [some (.ref 15), some (.ref 6), some (.int a2), some (.int a3), some (.int a4), some (.int a5), none, none, none, none, none, none] [] u := by
  unfold w_X1_weightRunning at h
  refine gg_iload hG dX1_weightRunning_0 rfl ?_
  refine gg_iconst (v := 3) hG dX1_weightRunning_2 (by decide) ?_
  refine gg_xsN (As := [.int a4, .int 3]) (st := []) hG dX1_weightRunning_3 ml_RX1_98 Y_X10_isBelow YS_X10_isBelow (mt_X10_isBelow h) rfl (by omega) (Nat.le_of_ble_eq_true rfl) rfl (gg_ki (fun v23 u22 h => ?_))
  refine gg_if_ne (tgt := 11) hG dX1_weightRunning_6 (by decide) (fun c24 => ?_) (fun c24 => ?_)
  · replace h := h.1 c24
    refine gg_iconst (v := (-1)) hG dX1_weightRunning_11 (by decide) ?_
    refine gg_istore (L1 := [some (.ref 15), some (.ref 6), some (.int a2), some (.int a3), some (.int a4), some (.int a5), some (.int (-1)), none, none, none, none, none]) hG dX1_weightRunning_12 (by decide) rfl ?_
    refine gg_iload hG dX1_weightRunning_14 rfl ?_
    refine gg_iconst (v := 1) hG dX1_weightRunning_16 (by decide) ?_
    refine gg_ic_gt (tgt := 24) hG dX1_weightRunning_17 (by decide) (fun c25 => ?_) (fun c25 => ?_)
    · replace h := h.1 c25
      refine gg_bipush (v := 10) hG dX1_weightRunning_24 (by decide) ?_
      exact m_X1_weightRunning_c26 hG h hW
    · replace h := h.2 c25
      refine gg_iconst (v := 4) hG dX1_weightRunning_20 (by decide) ?_
      refine gg_goto (tgt := 26) hG dX1_weightRunning_21 (by decide) ?_
      exact m_X1_weightRunning_c26 hG h hW
  · replace h := h.2 c24
    refine gg_iconst (v := 0) hG dX1_weightRunning_9 (by decide) ?_
    exact gg_iret hG dX1_weightRunning_10 rfl rfl ⟨_, rfl, h⟩
/-- with at most d calls of itself inside -/
def wr_X1_weightRunning : Nat → Int32 → Int32 → Int32 → Int32 → gg_M → (Int32 → gg_M → Prop) → Prop
  | 0 => fun _ _ _ _ _ _ => False
  | d + 1 => fun a2 a3 a4 a5 u Q => w_X1_weightRunning a2 a3 a4 a5 u (wr_X1_weightRunning d) Q
theorem mr_X1_weightRunning : ∀ (d : Nat) (a2 a3 a4 a5 : Int32) (u : gg_M) (Q : Int32 → gg_M → Prop), wr_X1_weightRunning d a2 a3 a4 a5 u Q → gg_Mt (d + 4) yX1_weightRunning cX1_weightRunning 12 (some .int) [.ref 15, .ref 6, .int a2, .int a3, .int a4, .int a5] u (gg_eI Q)
  | 0, _, _, _, _, _, _, h => h.elim
  | d + 1, a2, a3, a4, a5, u, Q, h => by
    refine gg_intro (own := RX1) (by decide +kernel) rfl rfl (Nat.le_of_ble_eq_true rfl) (fun G hG => ?_)
    have e : d + 1 + 4 = d + 5 := by omega
    rw [e] at hG
    exact m_X1_weightRunning (h0 := d) hG h (mr_X1_weightRunning d)
def w_X1_weightRunning4 (a2 a3 a4 a5 : Int32) (u : gg_M) (Q : Int32 → gg_M → Prop) : Prop := wr_X1_weightRunning 4 a2 a3 a4 a5 u Q
theorem mt_X1_weightRunning {a2 a3 a4 a5 : Int32} {u : gg_M} {Q : Int32 → gg_M → Prop} (h : wr_X1_weightRunning 4 a2 a3 a4 a5 u Q) : gg_Mt 8 yX1_weightRunning cX1_weightRunning 12 (some .int) [.ref 15, .ref 6, .int a2, .int a3, .int a4, .int a5] u (gg_eI Q) := mr_X1_weightRunning 4 _ _ _ _ _ _ h
/-! X2_takes -/
def w_X2_takes_c16  (u : gg_M)  (Q : Int32 → gg_M → Prop) : Prop :=
  Q 0 u
set_option maxRecDepth 10000 in
theorem m_X2_takes_c16  {u : gg_M}  {G : gg_T} {Q : Int32 → gg_M → Prop} (hG : gg_Cl none cX2_takes 3 RX2 (some .boolean) 1 (gg_eI Q) G)  (h : w_X2_takes_c16  u  Q)   : G 16 [none, none, none] [] u := by
  unfold w_X2_takes_c16 at h
  refine gg_iconst (v := 0) hG dX2_takes_16 (by decide) ?_
  exact gg_iret hG dX2_takes_17 rfl (gg_nb (Or.inl rfl)).1 ⟨_, rfl, h⟩
def w_X2_takes (a1 : Int32) (a2 : Int32) (u : gg_M)  (Q : Int32 → gg_M → Prop) : Prop :=
  ((u.1 12 2) < 0 →
   w_X2_takes_c16 u Q) ∧
  (¬ (u.1 12 2) < 0 →
   ((u.1 12 2) < 24 →
    vp_in (u.1 12 2) 24 ∧
    ∀ u4 : gg_M, u4 = gg_wI u 13 ((u.1 12 2).toNatClampNeg) a1 →
    vp_in (u4.1 12 2) 24 ∧
    ∀ u6 : gg_M, u6 = gg_wI u4 14 ((u4.1 12 2).toNatClampNeg) a2 →
    ∀ u7 : gg_M, u7 = gg_wI u6 12 2 ((u6.1 12 2) + 1) →
    Q 1 u7) ∧
   (¬ (u.1 12 2) < 24 →
    w_X2_takes_c16 u Q))
set_option maxRecDepth 10000 in
theorem m_X2_takes {a1 : Int32} {a2 : Int32} {u : gg_M}  {G : gg_T} {Q : Int32 → gg_M → Prop} (hG : gg_Cl none cX2_takes 3 RX2 (some .boolean) 1 (gg_eI Q) G)  (h : w_X2_takes a1 a2 u  Q)   : G 0 [some (.ref 12), some (.int a1), some (.int a2)] [] u := by
  unfold w_X2_takes at h
  refine gg_aload_n hG dX2_takes_0 rfl rfl ?_
  refine gg_get (v := .int (u.1 12 2)) hG dX2_takes_1 (by decide) rfl fl_RX2_18 rfl ?_
  refine gg_if_lt (tgt := 16) hG dX2_takes_4 (by decide) (fun c1 => ?_) (fun c1 => ?_)
  · replace h := h.1 c1
    refine gg_mk hG [false, false, false] rfl ?_
    exact m_X2_takes_c16 hG h
  · replace h := h.2 c1
    refine gg_aload_n hG dX2_takes_7 rfl rfl ?_
    refine gg_get (v := .int (u.1 12 2)) hG dX2_takes_8 (by decide) rfl fl_RX2_18 rfl ?_
    refine gg_bipush (v := 24) hG dX2_takes_11 (by decide) ?_
    refine gg_ic_lt (tgt := 18) hG dX2_takes_13 (by decide) (fun c2 => ?_) (fun c2 => ?_)
    · replace h := h.1 c2
      refine gg_aload_n hG dX2_takes_18 rfl rfl ?_
      refine gg_get (v := .ref 13) hG dX2_takes_19 (by decide) rfl fl_RX2_9 rfl ?_
      refine gg_aload_n hG dX2_takes_22 rfl rfl ?_
      refine gg_get (v := .int (u.1 12 2)) hG dX2_takes_23 (by decide) rfl fl_RX2_18 rfl ?_
      refine gg_iload_n hG dX2_takes_26 rfl rfl ?_
      obtain ⟨h3, h⟩ := h
      refine gg_iast (j := (u.1 12 2).toNatClampNeg) hG dX2_takes_27 (by decide) rfl h3 rfl ?_
      refine gg_nu (fun u4 eu4 => ?_)
      replace h := h u4 eu4
      refine gg_aload_n hG dX2_takes_28 rfl rfl ?_
      refine gg_get (v := .ref 14) hG dX2_takes_29 (by decide) rfl fl_RX2_15 rfl ?_
      refine gg_aload_n hG dX2_takes_32 rfl rfl ?_
      refine gg_get (v := .int (u4.1 12 2)) hG dX2_takes_33 (by decide) rfl fl_RX2_18 rfl ?_
      refine gg_iload_n hG dX2_takes_36 rfl rfl ?_
      obtain ⟨h5, h⟩ := h
      refine gg_iast (j := (u4.1 12 2).toNatClampNeg) hG dX2_takes_37 (by decide) rfl h5 rfl ?_
      refine gg_nu (fun u6 eu6 => ?_)
      replace h := h u6 eu6
      refine gg_aload_n hG dX2_takes_38 rfl rfl ?_
      refine gg_dup hG dX2_takes_39 rfl ?_
      refine gg_get (v := .int (u6.1 12 2)) hG dX2_takes_40 (by decide) rfl fl_RX2_18 rfl ?_
      refine gg_iconst (v := 1) hG dX2_takes_43 (by decide) ?_
      refine gg_iadd hG dX2_takes_44 ?_
      refine gg_putI hG dX2_takes_45 (by decide) rfl fp_RX2_18 rfl rfl rfl ?_
      refine gg_nu (fun u7 eu7 => ?_)
      replace h := h u7 eu7
      refine gg_iconst (v := 1) hG dX2_takes_48 (by decide) ?_
      exact gg_iret hG dX2_takes_49 rfl (gg_nb (Or.inr rfl)).1 ⟨_, rfl, h⟩
    · replace h := h.2 c2
      refine gg_mk hG [false, false, false] rfl ?_
      exact m_X2_takes_c16 hG h
theorem mt_X2_takes {a1 : Int32} {a2 : Int32}  {u : gg_M} {Q : Int32 → gg_M → Prop} (h : w_X2_takes a1 a2 u Q) : gg_Mt 1 yX2_takes cX2_takes 3 (some .boolean) [.ref 12, .int a1, .int a2] u (gg_eI Q) :=
  gg_intro (own := RX2) (by decide +kernel) rfl rfl (Nat.le_of_ble_eq_true rfl) (fun G hG => m_X2_takes hG  h)
/-! X3_takes -/
def w_X3_takes (a1 : Int32) (a2 : Int32) (a3 : Int32) (u : gg_M)  (Q : Int32 → gg_M → Prop) : Prop :=
  w_X10_isBelow (u.1 33 5) 16 u (fun v2 u1 =>
  (¬ v2 = 0 →
   vp_in (u1.1 33 5) 16 ∧
   ∀ u5 : gg_M, u5 = gg_wI u1 34 ((u1.1 33 5).toNatClampNeg) a1 →
   vp_in (u5.1 33 5) 16 ∧
   ∀ u7 : gg_M, u7 = gg_wI u5 35 ((u5.1 33 5).toNatClampNeg) a2 →
   vp_in (u7.1 33 5) 16 ∧
   ∀ u9 : gg_M, u9 = gg_wI u7 36 ((u7.1 33 5).toNatClampNeg) a3 →
   ∀ u10 : gg_M, u10 = gg_wI u9 33 5 ((u9.1 33 5) + 1) →
   ∀ u11 : gg_M, u11 = gg_wI u10 33 4 0 →
   Q 1 u11) ∧
  (v2 = 0 →
   Q 0 u1))
set_option maxRecDepth 10000 in
theorem m_X3_takes {a1 : Int32} {a2 : Int32} {a3 : Int32} {u : gg_M}  {G : gg_T} {Q : Int32 → gg_M → Prop} (hG : gg_Cl none cX3_takes 4 RX3 (some .boolean) 2 (gg_eI Q) G)  (h : w_X3_takes a1 a2 a3 u  Q)   : G 0 [some (.ref 33), some (.int a1), some (.int a2), some (.int a3)] [] u := by
  unfold w_X3_takes at h
  refine gg_aload_n hG dX3_takes_0 rfl rfl ?_
  refine gg_get (v := .int (u.1 33 5)) hG dX3_takes_1 (by decide) rfl fl_RX3_24 rfl ?_
  refine gg_bipush (v := 16) hG dX3_takes_4 (by decide) ?_
  refine gg_xsN (As := [.int (u.1 33 5), .int 16]) (st := []) hG dX3_takes_6 ml_RX3_28 Y_X10_isBelow YS_X10_isBelow (mt_X10_isBelow h) rfl (by decide) (Nat.le_of_ble_eq_true rfl) rfl (gg_ki (fun v2 u1 h => ?_))
  refine gg_if_ne (tgt := 14) hG dX3_takes_9 (by decide) (fun c3 => ?_) (fun c3 => ?_)
  · replace h := h.1 c3
    refine gg_aload_n hG dX3_takes_14 rfl rfl ?_
    refine gg_get (v := .ref 34) hG dX3_takes_15 (by decide) rfl fl_RX3_9 rfl ?_
    refine gg_aload_n hG dX3_takes_18 rfl rfl ?_
    refine gg_get (v := .int (u1.1 33 5)) hG dX3_takes_19 (by decide) rfl fl_RX3_24 rfl ?_
    refine gg_iload_n hG dX3_takes_22 rfl rfl ?_
    obtain ⟨h4, h⟩ := h
    refine gg_iast (j := (u1.1 33 5).toNatClampNeg) hG dX3_takes_23 (by decide) rfl h4 rfl ?_
    refine gg_nu (fun u5 eu5 => ?_)
    replace h := h u5 eu5
    refine gg_aload_n hG dX3_takes_24 rfl rfl ?_
    refine gg_get (v := .ref 35) hG dX3_takes_25 (by decide) rfl fl_RX3_15 rfl ?_
    refine gg_aload_n hG dX3_takes_28 rfl rfl ?_
    refine gg_get (v := .int (u5.1 33 5)) hG dX3_takes_29 (by decide) rfl fl_RX3_24 rfl ?_
    refine gg_iload_n hG dX3_takes_32 rfl rfl ?_
    obtain ⟨h6, h⟩ := h
    refine gg_iast (j := (u5.1 33 5).toNatClampNeg) hG dX3_takes_33 (by decide) rfl h6 rfl ?_
    refine gg_nu (fun u7 eu7 => ?_)
    replace h := h u7 eu7
    refine gg_aload_n hG dX3_takes_34 rfl rfl ?_
    refine gg_get (v := .ref 36) hG dX3_takes_35 (by decide) rfl fl_RX3_18 rfl ?_
    refine gg_aload_n hG dX3_takes_38 rfl rfl ?_
    refine gg_get (v := .int (u7.1 33 5)) hG dX3_takes_39 (by decide) rfl fl_RX3_24 rfl ?_
    refine gg_iload_n hG dX3_takes_42 rfl rfl ?_
    obtain ⟨h8, h⟩ := h
    refine gg_iast (j := (u7.1 33 5).toNatClampNeg) hG dX3_takes_43 (by decide) rfl h8 rfl ?_
    refine gg_nu (fun u9 eu9 => ?_)
    replace h := h u9 eu9
    refine gg_aload_n hG dX3_takes_44 rfl rfl ?_
    refine gg_dup hG dX3_takes_45 rfl ?_
    refine gg_get (v := .int (u9.1 33 5)) hG dX3_takes_46 (by decide) rfl fl_RX3_24 rfl ?_
    refine gg_iconst (v := 1) hG dX3_takes_49 (by decide) ?_
    refine gg_iadd hG dX3_takes_50 ?_
    refine gg_putI hG dX3_takes_51 (by decide) rfl fp_RX3_24 rfl rfl rfl ?_
    refine gg_nu (fun u10 eu10 => ?_)
    replace h := h u10 eu10
    refine gg_aload_n hG dX3_takes_54 rfl rfl ?_
    refine gg_iconst (v := 0) hG dX3_takes_55 (by decide) ?_
    refine gg_putI hG dX3_takes_56 (by decide) rfl fp_RX3_32 rfl (gg_nb (Or.inl rfl)).1 (gg_nb (Or.inl rfl)).2 ?_
    refine gg_nu (fun u11 eu11 => ?_)
    replace h := h u11 eu11
    refine gg_iconst (v := 1) hG dX3_takes_59 (by decide) ?_
    exact gg_iret hG dX3_takes_60 rfl (gg_nb (Or.inr rfl)).1 ⟨_, rfl, h⟩
  · replace h := h.2 c3
    refine gg_iconst (v := 0) hG dX3_takes_12 (by decide) ?_
    exact gg_iret hG dX3_takes_13 rfl (gg_nb (Or.inl rfl)).1 ⟨_, rfl, h⟩
theorem mt_X3_takes {a1 : Int32} {a2 : Int32} {a3 : Int32}  {u : gg_M} {Q : Int32 → gg_M → Prop} (h : w_X3_takes a1 a2 a3 u Q) : gg_Mt 2 yX3_takes cX3_takes 4 (some .boolean) [.ref 33, .int a1, .int a2, .int a3] u (gg_eI Q) :=
  gg_intro (own := RX3) (by decide +kernel) rfl rfl (Nat.le_of_ble_eq_true rfl) (fun G hG => m_X3_takes hG  h)
/-! X3_lawSays -/
def w_X3_lawSays (a0 : Int32) (a1 : Int32) (a2 : Int32) (a3 : Int32) (a4 : Int32) (u : gg_M)  (Q : Int32 → gg_M → Prop) : Prop :=
  Q ((a0 + ((a1 * a3) / 10)) + (a2 * a4)) u
set_option maxRecDepth 10000 in
theorem m_X3_lawSays {a0 : Int32} {a1 : Int32} {a2 : Int32} {a3 : Int32} {a4 : Int32} {u : gg_M}  {G : gg_T} {Q : Int32 → gg_M → Prop} (hG : gg_Cl none cX3_lawSays 5 RX3 (some .int) 1 (gg_eI Q) G)  (h : w_X3_lawSays a0 a1 a2 a3 a4 u  Q)   : G 0 [some (.int a0), some (.int a1), some (.int a2), some (.int a3), some (.int a4)] [] u := by
  unfold w_X3_lawSays at h
  refine gg_iload_n hG dX3_lawSays_0 rfl rfl ?_
  refine gg_iload_n hG dX3_lawSays_1 rfl rfl ?_
  refine gg_iload_n hG dX3_lawSays_2 rfl rfl ?_
  refine gg_imul hG dX3_lawSays_3 ?_
  refine gg_bipush (v := 10) hG dX3_lawSays_4 (by decide) ?_
  refine gg_idiv hG dX3_lawSays_6 (by decide) ?_
  refine gg_iadd hG dX3_lawSays_7 ?_
  refine gg_iload_n hG dX3_lawSays_8 rfl rfl ?_
  refine gg_iload hG dX3_lawSays_9 rfl ?_
  refine gg_imul hG dX3_lawSays_11 ?_
  refine gg_iadd hG dX3_lawSays_12 ?_
  exact gg_iret hG dX3_lawSays_13 rfl rfl ⟨_, rfl, h⟩
theorem mt_X3_lawSays {a0 : Int32} {a1 : Int32} {a2 : Int32} {a3 : Int32} {a4 : Int32}  {u : gg_M} {Q : Int32 → gg_M → Prop} (h : w_X3_lawSays a0 a1 a2 a3 a4 u Q) : gg_Mt 1 yX3_lawSays cX3_lawSays 5 (some .int) [.int a0, .int a1, .int a2, .int a3, .int a4] u (gg_eI Q) :=
  gg_intro (own := RX3) (by decide +kernel) rfl rfl (Nat.le_of_ble_eq_true rfl) (fun G hG => m_X3_lawSays hG  h)
/-! J9_abs_0f7a4 -/
def w_J9_abs_0f7a4_c10 (z0 : Int32) (u : gg_M)  (Q : Int32 → gg_M → Prop) : Prop :=
  Q z0 u
set_option maxRecDepth 10000 in
theorem m_J9_abs_0f7a4_c10 {z0 : Int32} {u : gg_M}  {G : gg_T} {Q : Int32 → gg_M → Prop} (hG : gg_Cl none cJ9_abs_0f7a4 1 RJ9 (some .int) 1 (gg_eI Q) G)  (h : w_J9_abs_0f7a4_c10 z0 u  Q)   : G 10 [none] [.int z0] u := by
  unfold w_J9_abs_0f7a4_c10 at h
  exact gg_iret hG dJ9_abs_0f7a4_10 rfl rfl ⟨_, rfl, h⟩
def w_J9_abs_0f7a4 (a0 : Int32) (u : gg_M)  (Q : Int32 → gg_M → Prop) : Prop :=
  (0 ≤ a0 →
   w_J9_abs_0f7a4_c10 a0 u Q) ∧
  (¬ 0 ≤ a0 →
   w_J9_abs_0f7a4_c10 (-a0) u Q)
set_option maxRecDepth 10000 in
theorem m_J9_abs_0f7a4 {a0 : Int32} {u : gg_M}  {G : gg_T} {Q : Int32 → gg_M → Prop} (hG : gg_Cl none cJ9_abs_0f7a4 1 RJ9 (some .int) 1 (gg_eI Q) G)  (h : w_J9_abs_0f7a4 a0 u  Q)   : G 0 [some (.int a0)] [] u := by
  unfold w_J9_abs_0f7a4 at h
  refine gg_iload_n hG dJ9_abs_0f7a4_0 rfl rfl ?_
  refine gg_if_ge (tgt := 9) hG dJ9_abs_0f7a4_1 (by decide) (fun c1 => ?_) (fun c1 => ?_)
  · replace h := h.1 c1
    refine gg_iload_n hG dJ9_abs_0f7a4_9 rfl rfl ?_
    refine gg_mk hG [false] rfl ?_
    exact m_J9_abs_0f7a4_c10 hG h
  · replace h := h.2 c1
    refine gg_iload_n hG dJ9_abs_0f7a4_4 rfl rfl ?_
    refine gg_ineg hG dJ9_abs_0f7a4_5 ?_
    refine gg_goto (tgt := 10) hG dJ9_abs_0f7a4_6 (by decide) ?_
    refine gg_mk hG [false] rfl ?_
    exact m_J9_abs_0f7a4_c10 hG h
theorem mt_J9_abs_0f7a4 {a0 : Int32}  {u : gg_M} {Q : Int32 → gg_M → Prop} (h : w_J9_abs_0f7a4 a0 u Q) : gg_Mt 1 yJ9_abs_0f7a4 cJ9_abs_0f7a4 1 (some .int) [.int a0] u (gg_eI Q) :=
  gg_intro (own := RJ9) (by decide +kernel) rfl rfl (Nat.le_of_ble_eq_true rfl) (fun G hG => m_J9_abs_0f7a4 hG  h)
/-! X3_offBy -/
def w_X3_offBy_c64 (a4 : Int32) (u : gg_M)  (Q : Int32 → gg_M → Prop) : Prop :=
  Q a4 u
set_option maxRecDepth 10000 in
theorem m_X3_offBy_c64 {a4 : Int32} {u : gg_M}  {G : gg_T} {Q : Int32 → gg_M → Prop} (hG : gg_Cl none cX3_offBy 6 RX3 (some .int) 2 (gg_eI Q) G)  (h : w_X3_offBy_c64 a4 u  Q)   : G 64 [none, none, none, none, some (.int a4), none] [] u := by
  unfold w_X3_offBy_c64 at h
  refine gg_iload hG dX3_offBy_64 rfl ?_
  exact gg_iret hG dX3_offBy_66 rfl rfl ⟨_, rfl, h⟩
def b_X3_offBy_c6 (a1 : Int32) (a2 : Int32) (a3 : Int32) (a4 : Int32) (a5 : Int32) (u : gg_M)  (k6 : Int32 × Int32 × gg_M → Prop) (Q : Int32 → gg_M → Prop) : Prop :=
  ((u.1 33 5) ≤ a5 →
   w_X3_offBy_c64 a4 u Q) ∧
  (¬ (u.1 33 5) ≤ a5 →
   (16 ≤ a5 →
    w_X3_offBy_c64 a4 u Q) ∧
   (¬ 16 ≤ a5 →
    vp_in a5 16 ∧
    vp_in a5 16 ∧
    w_X3_lawSays a1 a2 a3 (u.1 34 a5.toNatClampNeg) (u.1 35 a5.toNatClampNeg) u (fun v6 u5 =>
    vp_in a5 16 ∧
    w_J9_abs_0f7a4 (v6 - (u5.1 36 a5.toNatClampNeg)) u5 (fun v9 u8 =>
    ∀ v10 : Int32, v10 = (a4 + v9) →
    k6 (v10, (a5 + 1), u8)))))
set_option maxRecDepth 10000 in
theorem mb_X3_offBy_c6 {a1 : Int32} {a2 : Int32} {a3 : Int32} {a4 : Int32} {a5 : Int32} {u : gg_M}  {k6 : Int32 × Int32 × gg_M → Prop} {G : gg_T} {Q : Int32 → gg_M → Prop} (hG : gg_Cl none cX3_offBy 6 RX3 (some .int) 2 (gg_eI Q) G)  (h : b_X3_offBy_c6 a1 a2 a3 a4 a5 u k6 Q)   (hk6 : ∀ s : Int32 × Int32 × gg_M, k6 s → G 6 [some (.ref 33), some (.int a1), some (.int a2), some (.int a3), some (.int s.1), some (.int s.2.1)] [] s.2.2) : G 6 [some (.ref 33), some (.int a1), some (.int a2), some (.int a3), some (.int a4), some (.int a5)] [] u := by
  unfold b_X3_offBy_c6 at h
  refine gg_iload hG dX3_offBy_6 rfl ?_
  refine gg_aload_n hG dX3_offBy_8 rfl rfl ?_
  refine gg_get (v := .int (u.1 33 5)) hG dX3_offBy_9 (by decide) rfl fl_RX3_24 rfl ?_
  refine gg_ic_ge (tgt := 64) hG dX3_offBy_12 (by decide) (fun c1 => ?_) (fun c1 => ?_)
  · replace h := h.1 c1
    refine gg_mk hG [false, false, false, false, true, false] rfl ?_
    exact m_X3_offBy_c64 hG h
  · replace h := h.2 c1
    refine gg_iload hG dX3_offBy_15 rfl ?_
    refine gg_bipush (v := 16) hG dX3_offBy_17 (by decide) ?_
    refine gg_ic_ge (tgt := 64) hG dX3_offBy_19 (by decide) (fun c2 => ?_) (fun c2 => ?_)
    · replace h := h.1 c2
      refine gg_mk hG [false, false, false, false, true, false] rfl ?_
      exact m_X3_offBy_c64 hG h
    · replace h := h.2 c2
      refine gg_iload hG dX3_offBy_22 rfl ?_
      refine gg_iload_n hG dX3_offBy_24 rfl rfl ?_
      refine gg_iload_n hG dX3_offBy_25 rfl rfl ?_
      refine gg_iload_n hG dX3_offBy_26 rfl rfl ?_
      refine gg_aload_n hG dX3_offBy_27 rfl rfl ?_
      refine gg_get (v := .ref 34) hG dX3_offBy_28 (by decide) rfl fl_RX3_9 rfl ?_
      refine gg_iload hG dX3_offBy_31 rfl ?_
      obtain ⟨h3, h⟩ := h
      refine gg_iald (j := a5.toNatClampNeg) hG dX3_offBy_33 (by decide) rfl h3 rfl ?_
      refine gg_aload_n hG dX3_offBy_34 rfl rfl ?_
      refine gg_get (v := .ref 35) hG dX3_offBy_35 (by decide) rfl fl_RX3_15 rfl ?_
      refine gg_iload hG dX3_offBy_38 rfl ?_
      obtain ⟨h4, h⟩ := h
      refine gg_iald (j := a5.toNatClampNeg) hG dX3_offBy_40 (by decide) rfl h4 rfl ?_
      refine gg_xs (As := [.int a1, .int a2, .int a3, .int (u.1 34 a5.toNatClampNeg), .int (u.1 35 a5.toNatClampNeg)]) (st := [.int a4]) hG dX3_offBy_41 ml_RX3_36 Y_X3_lawSays YS_X3_lawSays (mt_X3_lawSays h) rfl (by decide) (Nat.le_of_ble_eq_true rfl) rfl (gg_ki (fun v6 u5 h => ?_))
      refine gg_aload_n hG dX3_offBy_44 rfl rfl ?_
      refine gg_get (v := .ref 36) hG dX3_offBy_45 (by decide) rfl fl_RX3_18 rfl ?_
      refine gg_iload hG dX3_offBy_48 rfl ?_
      obtain ⟨h7, h⟩ := h
      refine gg_iald (j := a5.toNatClampNeg) hG dX3_offBy_50 (by decide) rfl h7 rfl ?_
      refine gg_isub hG dX3_offBy_51 ?_
      refine gg_xs (As := [.int (v6 - (u5.1 36 a5.toNatClampNeg))]) (st := [.int a4]) hG dX3_offBy_52 ml_RX3_40 Y_J9_abs_0f7a4 YS_J9_abs_0f7a4 (mt_J9_abs_0f7a4 h) rfl (by decide) (Nat.le_of_ble_eq_true rfl) rfl (gg_ki (fun v9 u8 h => ?_))
      refine gg_iadd hG dX3_offBy_55 ?_
      refine gg_ni (fun v10 e10 => ?_)
      replace h := h v10 e10
      refine gg_istore (L1 := [some (.ref 33), some (.int a1), some (.int a2), some (.int a3), some (.int v10), some (.int a5)]) hG dX3_offBy_56 (by decide) rfl ?_
      refine gg_iinc (v := (a5 + 1)) (L1 := [some (.ref 33), some (.int a1), some (.int a2), some (.int a3), some (.int v10), some (.int (a5 + 1))]) hG dX3_offBy_58 rfl rfl (by decide) rfl ?_
      refine gg_goto (tgt := 6) hG dX3_offBy_61 (by decide) ?_
      exact hk6 _ h
def w_X3_offBy_c6 (a1 : Int32) (a2 : Int32) (a3 : Int32) (a4 : Int32) (a5 : Int32) (u : gg_M)  (Q : Int32 → gg_M → Prop) : Prop :=
  gg_loop (fun (s : Int32 × Int32 × gg_M) k6 => b_X3_offBy_c6 a1 a2 a3 s.1 s.2.1 s.2.2  k6 Q) (a4, a5, u)
set_option maxRecDepth 10000 in
theorem m_X3_offBy_c6 {a1 : Int32} {a2 : Int32} {a3 : Int32} {a4 : Int32} {a5 : Int32} {u : gg_M}  {G : gg_T} {Q : Int32 → gg_M → Prop} (hG : gg_Cl none cX3_offBy 6 RX3 (some .int) 2 (gg_eI Q) G)  (h : w_X3_offBy_c6 a1 a2 a3 a4 a5 u  Q)   : G 6 [some (.ref 33), some (.int a1), some (.int a2), some (.int a3), some (.int a4), some (.int a5)] [] u :=
  gg_loop_use (P := fun s : Int32 × Int32 × gg_M => G 6 [some (.ref 33), some (.int a1), some (.int a2), some (.int a3), some (.int s.1), some (.int s.2.1)] [] s.2.2) h (fun s rc hb hr => mb_X3_offBy_c6 hG  hb   hr)
def w_X3_offBy (a1 : Int32) (a2 : Int32) (a3 : Int32) (u : gg_M)  (Q : Int32 → gg_M → Prop) : Prop :=
  w_X3_offBy_c6 a1 a2 a3 0 0 u Q
set_option maxRecDepth 10000 in
theorem m_X3_offBy {a1 : Int32} {a2 : Int32} {a3 : Int32} {u : gg_M}  {G : gg_T} {Q : Int32 → gg_M → Prop} (hG : gg_Cl none cX3_offBy 6 RX3 (some .int) 2 (gg_eI Q) G)  (h : w_X3_offBy a1 a2 a3 u  Q)   : G 0 [some (.ref 33), some (.int a1), some (.int a2), some (.int a3), none, none] [] u := by
  unfold w_X3_offBy at h
  refine gg_iconst (v := 0) hG dX3_offBy_0 (by decide) ?_
  refine gg_istore (L1 := [some (.ref 33), some (.int a1), some (.int a2), some (.int a3), some (.int 0), none]) hG dX3_offBy_1 (by decide) rfl ?_
  refine gg_iconst (v := 0) hG dX3_offBy_3 (by decide) ?_
  refine gg_istore (L1 := [some (.ref 33), some (.int a1), some (.int a2), some (.int a3), some (.int 0), some (.int 0)]) hG dX3_offBy_4 (by decide) rfl ?_
  exact m_X3_offBy_c6 hG h
theorem mt_X3_offBy {a1 : Int32} {a2 : Int32} {a3 : Int32}  {u : gg_M} {Q : Int32 → gg_M → Prop} (h : w_X3_offBy a1 a2 a3 u Q) : gg_Mt 2 yX3_offBy cX3_offBy 6 (some .int) [.ref 33, .int a1, .int a2, .int a3] u (gg_eI Q) :=
  gg_intro (own := RX3) (by decide +kernel) rfl rfl (Nat.le_of_ble_eq_true rfl) (fun G hG => m_X3_offBy hG  h)
/-! X3_turnsTogether -/
def w_X3_turnsTogether  (u : gg_M)  (Q : Int32 → gg_M → Prop) : Prop :=
  w_X3_offBy 0 0 0 u (fun v2 u1 =>
  Q v2 u1)
set_option maxRecDepth 10000 in
theorem m_X3_turnsTogether  {u : gg_M}  {G : gg_T} {Q : Int32 → gg_M → Prop} (hG : gg_Cl none cX3_turnsTogether 1 RX3 (some .int) 3 (gg_eI Q) G)  (h : w_X3_turnsTogether  u  Q)   : G 0 [some (.ref 33)] [] u := by
  unfold w_X3_turnsTogether at h
  refine gg_aload_n hG dX3_turnsTogether_0 rfl rfl ?_
  refine gg_iconst (v := 0) hG dX3_turnsTogether_1 (by decide) ?_
  refine gg_iconst (v := 0) hG dX3_turnsTogether_2 (by decide) ?_
  refine gg_iconst (v := 0) hG dX3_turnsTogether_3 (by decide) ?_
  refine gg_xv (As := [.int 0, .int 0, .int 0]) (st := []) hG dX3_turnsTogether_4 ml_RX3_46 Y_X3_offBy YV_X3_offBy (by decide) ⟨_, rfl, rfl⟩ (mt_X3_offBy h) rfl (by decide) (Nat.le_of_ble_eq_true rfl) rfl (gg_ki (fun v2 u1 h => ?_))
  exact gg_iret hG dX3_turnsTogether_7 rfl rfl ⟨_, rfl, h⟩
theorem mt_X3_turnsTogether   {u : gg_M} {Q : Int32 → gg_M → Prop} (h : w_X3_turnsTogether  u Q) : gg_Mt 3 yX3_turnsTogether cX3_turnsTogether 1 (some .int) [.ref 33] u (gg_eI Q) :=
  gg_intro (own := RX3) (by decide +kernel) rfl rfl (Nat.le_of_ble_eq_true rfl) (fun G hG => m_X3_turnsTogether hG  h)
/-! X3_takeIfBetter -/
def w_X3_takeIfBetter_c49  (u : gg_M)  (Q : gg_M → Prop) : Prop :=
  Q u
set_option maxRecDepth 10000 in
theorem m_X3_takeIfBetter_c49  {u : gg_M}  {G : gg_T} {Q : gg_M → Prop} (hG : gg_Cl none cX3_takeIfBetter 5 RX3 none 3 (gg_eV Q) G)  (h : w_X3_takeIfBetter_c49  u  Q)   : G 49 [none, none, none, none, none] [] u := by
  unfold w_X3_takeIfBetter_c49 at h
  exact gg_vret hG dX3_takeIfBetter_49 rfl ⟨rfl, h⟩
def w_X3_takeIfBetter (a1 : Int32) (a2 : Int32) (a3 : Int32) (u : gg_M)  (Q : gg_M → Prop) : Prop :=
  w_X3_offBy a1 a2 a3 u (fun v2 u1 =>
  ((u1.1 37 3) ≤ v2 →
   w_X3_takeIfBetter_c49 u1 Q) ∧
  (¬ (u1.1 37 3) ≤ v2 →
   ∀ u4 : gg_M, u4 = gg_wI u1 37 0 a1 →
   ∀ u5 : gg_M, u5 = gg_wI u4 37 1 a2 →
   ∀ u6 : gg_M, u6 = gg_wI u5 37 2 a3 →
   ∀ u7 : gg_M, u7 = gg_wI u6 37 3 v2 →
   w_X3_takeIfBetter_c49 u7 Q))
set_option maxRecDepth 10000 in
theorem m_X3_takeIfBetter {a1 : Int32} {a2 : Int32} {a3 : Int32} {u : gg_M}  {G : gg_T} {Q : gg_M → Prop} (hG : gg_Cl none cX3_takeIfBetter 5 RX3 none 3 (gg_eV Q) G)  (h : w_X3_takeIfBetter a1 a2 a3 u  Q)   : G 0 [some (.ref 33), some (.int a1), some (.int a2), some (.int a3), none] [] u := by
  unfold w_X3_takeIfBetter at h
  refine gg_aload_n hG dX3_takeIfBetter_0 rfl rfl ?_
  refine gg_iload_n hG dX3_takeIfBetter_1 rfl rfl ?_
  refine gg_iload_n hG dX3_takeIfBetter_2 rfl rfl ?_
  refine gg_iload_n hG dX3_takeIfBetter_3 rfl rfl ?_
  refine gg_xv (As := [.int a1, .int a2, .int a3]) (st := []) hG dX3_takeIfBetter_4 ml_RX3_46 Y_X3_offBy YV_X3_offBy (by decide) ⟨_, rfl, rfl⟩ (mt_X3_offBy h) rfl (by decide) (Nat.le_of_ble_eq_true rfl) rfl (gg_ki (fun v2 u1 h => ?_))
  refine gg_istore (L1 := [some (.ref 33), some (.int a1), some (.int a2), some (.int a3), some (.int v2)]) hG dX3_takeIfBetter_7 (by decide) rfl ?_
  refine gg_iload hG dX3_takeIfBetter_9 rfl ?_
  refine gg_aload_n hG dX3_takeIfBetter_11 rfl rfl ?_
  refine gg_get (v := .ref 37) hG dX3_takeIfBetter_12 (by decide) rfl fl_RX3_21 rfl ?_
  refine gg_iconst (v := 3) hG dX3_takeIfBetter_15 (by decide) ?_
  refine gg_iald (j := 3) hG dX3_takeIfBetter_16 (by decide) rfl (gg_vin (by decide +kernel)) (by decide) ?_
  refine gg_ic_ge (tgt := 49) hG dX3_takeIfBetter_17 (by decide) (fun c3 => ?_) (fun c3 => ?_)
  · replace h := h.1 c3
    refine gg_mk hG [false, false, false, false, false] rfl ?_
    exact m_X3_takeIfBetter_c49 hG h
  · replace h := h.2 c3
    refine gg_aload_n hG dX3_takeIfBetter_20 rfl rfl ?_
    refine gg_get (v := .ref 37) hG dX3_takeIfBetter_21 (by decide) rfl fl_RX3_21 rfl ?_
    refine gg_iconst (v := 0) hG dX3_takeIfBetter_24 (by decide) ?_
    refine gg_iload_n hG dX3_takeIfBetter_25 rfl rfl ?_
    refine gg_iast (j := 0) hG dX3_takeIfBetter_26 (by decide) rfl (gg_vin (by decide +kernel)) (by decide) ?_
    refine gg_nu (fun u4 eu4 => ?_)
    replace h := h u4 eu4
    refine gg_aload_n hG dX3_takeIfBetter_27 rfl rfl ?_
    refine gg_get (v := .ref 37) hG dX3_takeIfBetter_28 (by decide) rfl fl_RX3_21 rfl ?_
    refine gg_iconst (v := 1) hG dX3_takeIfBetter_31 (by decide) ?_
    refine gg_iload_n hG dX3_takeIfBetter_32 rfl rfl ?_
    refine gg_iast (j := 1) hG dX3_takeIfBetter_33 (by decide) rfl (gg_vin (by decide +kernel)) (by decide) ?_
    refine gg_nu (fun u5 eu5 => ?_)
    replace h := h u5 eu5
    refine gg_aload_n hG dX3_takeIfBetter_34 rfl rfl ?_
    refine gg_get (v := .ref 37) hG dX3_takeIfBetter_35 (by decide) rfl fl_RX3_21 rfl ?_
    refine gg_iconst (v := 2) hG dX3_takeIfBetter_38 (by decide) ?_
    refine gg_iload_n hG dX3_takeIfBetter_39 rfl rfl ?_
    refine gg_iast (j := 2) hG dX3_takeIfBetter_40 (by decide) rfl (gg_vin (by decide +kernel)) (by decide) ?_
    refine gg_nu (fun u6 eu6 => ?_)
    replace h := h u6 eu6
    refine gg_aload_n hG dX3_takeIfBetter_41 rfl rfl ?_
    refine gg_get (v := .ref 37) hG dX3_takeIfBetter_42 (by decide) rfl fl_RX3_21 rfl ?_
    refine gg_iconst (v := 3) hG dX3_takeIfBetter_45 (by decide) ?_
    refine gg_iload hG dX3_takeIfBetter_46 rfl ?_
    refine gg_iast (j := 3) hG dX3_takeIfBetter_48 (by decide) rfl (gg_vin (by decide +kernel)) (by decide) ?_
    refine gg_nu (fun u7 eu7 => ?_)
    replace h := h u7 eu7
    refine gg_mk hG [false, false, false, false, false] rfl ?_
    exact m_X3_takeIfBetter_c49 hG h
theorem mt_X3_takeIfBetter {a1 : Int32} {a2 : Int32} {a3 : Int32}  {u : gg_M} {Q : gg_M → Prop} (h : w_X3_takeIfBetter a1 a2 a3 u Q) : gg_Mt 3 yX3_takeIfBetter cX3_takeIfBetter 5 none [.ref 33, .int a1, .int a2, .int a3] u (gg_eV Q) :=
  gg_intro (own := RX3) (by decide +kernel) rfl rfl (Nat.le_of_ble_eq_true rfl) (fun G hG => m_X3_takeIfBetter hG  h)
/-! X3_findLaw -/
def b_X3_findLaw_c47 (a1 : Int32) (a2 : Int32) (a3 : Int32) (u : gg_M) (k31 : Int32 × gg_M → Prop) (k39 : Int32 × gg_M → Prop) (k47 : Int32 × gg_M → Prop) (Q : gg_M → Prop) : Prop :=
  (3 < a3 →
   k39 ((a2 + 1), u)) ∧
  (¬ 3 < a3 →
   w_X3_takeIfBetter a1 a2 a3 u (fun u2 =>
   k47 ((a3 + 1), u2)))
set_option maxRecDepth 10000 in
theorem mb_X3_findLaw_c47 {a1 : Int32} {a2 : Int32} {a3 : Int32} {u : gg_M} {k31 : Int32 × gg_M → Prop} {k39 : Int32 × gg_M → Prop} {k47 : Int32 × gg_M → Prop} {G : gg_T} {Q : gg_M → Prop} (hG : gg_Cl none cX3_findLaw 4 RX3 none 4 (gg_eV Q) G)  (h : b_X3_findLaw_c47 a1 a2 a3 u k31 k39 k47 Q)  (hk31 : ∀ s : Int32 × gg_M, k31 s → G 31 [some (.ref 33), some (.int s.1), none, none] [] s.2) (hk39 : ∀ s : Int32 × gg_M, k39 s → G 39 [some (.ref 33), some (.int a1), some (.int s.1), none] [] s.2) (hk47 : ∀ s : Int32 × gg_M, k47 s → G 47 [some (.ref 33), some (.int a1), some (.int a2), some (.int s.1)] [] s.2) : G 47 [some (.ref 33), some (.int a1), some (.int a2), some (.int a3)] [] u := by
  unfold b_X3_findLaw_c47 at h
  refine gg_iload_n hG dX3_findLaw_47 rfl rfl ?_
  refine gg_iconst (v := 3) hG dX3_findLaw_48 (by decide) ?_
  refine gg_ic_gt (tgt := 65) hG dX3_findLaw_49 (by decide) (fun c1 => ?_) (fun c1 => ?_)
  · replace h := h.1 c1
    refine gg_iinc (v := (a2 + 1)) (L1 := [some (.ref 33), some (.int a1), some (.int (a2 + 1)), some (.int a3)]) hG dX3_findLaw_65 rfl rfl (by decide) rfl ?_
    refine gg_goto (tgt := 39) hG dX3_findLaw_68 (by decide) ?_
    refine gg_mk hG [true, true, true, false] rfl ?_
    exact hk39 _ h
  · replace h := h.2 c1
    refine gg_aload_n hG dX3_findLaw_52 rfl rfl ?_
    refine gg_iload_n hG dX3_findLaw_53 rfl rfl ?_
    refine gg_iload_n hG dX3_findLaw_54 rfl rfl ?_
    refine gg_iload_n hG dX3_findLaw_55 rfl rfl ?_
    refine gg_xv (As := [.int a1, .int a2, .int a3]) (st := []) hG dX3_findLaw_56 ml_RX3_56 Y_X3_takeIfBetter YV_X3_takeIfBetter (by decide) ⟨_, rfl, rfl⟩ (mt_X3_takeIfBetter h) rfl (by decide) (Nat.le_of_ble_eq_true rfl) rfl (gg_kv (fun u2 h => ?_))
    refine gg_iinc (v := (a3 + 1)) (L1 := [some (.ref 33), some (.int a1), some (.int a2), some (.int (a3 + 1))]) hG dX3_findLaw_59 rfl rfl (by decide) rfl ?_
    refine gg_goto (tgt := 47) hG dX3_findLaw_62 (by decide) ?_
    exact hk47 _ h
def w_X3_findLaw_c47 (a1 : Int32) (a2 : Int32) (a3 : Int32) (u : gg_M) (k31 : Int32 × gg_M → Prop) (k39 : Int32 × gg_M → Prop) (Q : gg_M → Prop) : Prop :=
  gg_loop (fun (s : Int32 × gg_M) k47 => b_X3_findLaw_c47 a1 a2 s.1 s.2 k31 k39 k47 Q) (a3, u)
set_option maxRecDepth 10000 in
theorem m_X3_findLaw_c47 {a1 : Int32} {a2 : Int32} {a3 : Int32} {u : gg_M} {k31 : Int32 × gg_M → Prop} {k39 : Int32 × gg_M → Prop} {G : gg_T} {Q : gg_M → Prop} (hG : gg_Cl none cX3_findLaw 4 RX3 none 4 (gg_eV Q) G)  (h : w_X3_findLaw_c47 a1 a2 a3 u k31 k39 Q)  (hk31 : ∀ s : Int32 × gg_M, k31 s → G 31 [some (.ref 33), some (.int s.1), none, none] [] s.2) (hk39 : ∀ s : Int32 × gg_M, k39 s → G 39 [some (.ref 33), some (.int a1), some (.int s.1), none] [] s.2) : G 47 [some (.ref 33), some (.int a1), some (.int a2), some (.int a3)] [] u :=
  gg_loop_use (P := fun s : Int32 × gg_M => G 47 [some (.ref 33), some (.int a1), some (.int a2), some (.int s.1)] [] s.2) h (fun s rc hb hr => mb_X3_findLaw_c47 hG  hb  hk31 hk39 hr)
def b_X3_findLaw_c39 (a1 : Int32) (a2 : Int32) (u : gg_M) (k31 : Int32 × gg_M → Prop) (k39 : Int32 × gg_M → Prop) (Q : gg_M → Prop) : Prop :=
  (9 < a2 →
   k31 ((a1 + 1), u)) ∧
  (¬ 9 < a2 →
   w_X3_findLaw_c47 a1 a2 0 u k31 k39 Q)
set_option maxRecDepth 10000 in
theorem mb_X3_findLaw_c39 {a1 : Int32} {a2 : Int32} {u : gg_M} {k31 : Int32 × gg_M → Prop} {k39 : Int32 × gg_M → Prop} {G : gg_T} {Q : gg_M → Prop} (hG : gg_Cl none cX3_findLaw 4 RX3 none 4 (gg_eV Q) G)  (h : b_X3_findLaw_c39 a1 a2 u k31 k39 Q)  (hk31 : ∀ s : Int32 × gg_M, k31 s → G 31 [some (.ref 33), some (.int s.1), none, none] [] s.2) (hk39 : ∀ s : Int32 × gg_M, k39 s → G 39 [some (.ref 33), some (.int a1), some (.int s.1), none] [] s.2) : G 39 [some (.ref 33), some (.int a1), some (.int a2), none] [] u := by
  unfold b_X3_findLaw_c39 at h
  refine gg_iload_n hG dX3_findLaw_39 rfl rfl ?_
  refine gg_bipush (v := 9) hG dX3_findLaw_40 (by decide) ?_
  refine gg_ic_gt (tgt := 71) hG dX3_findLaw_42 (by decide) (fun c3 => ?_) (fun c3 => ?_)
  · replace h := h.1 c3
    refine gg_iinc (v := (a1 + 1)) (L1 := [some (.ref 33), some (.int (a1 + 1)), some (.int a2), none]) hG dX3_findLaw_71 rfl rfl (by decide) rfl ?_
    refine gg_goto (tgt := 31) hG dX3_findLaw_74 (by decide) ?_
    refine gg_mk hG [true, true, false, false] rfl ?_
    exact hk31 _ h
  · replace h := h.2 c3
    refine gg_iconst (v := 0) hG dX3_findLaw_45 (by decide) ?_
    refine gg_istore_n (L1 := [some (.ref 33), some (.int a1), some (.int a2), some (.int 0)]) hG dX3_findLaw_46 rfl (by decide) rfl ?_
    exact m_X3_findLaw_c47 hG h hk31 hk39
def w_X3_findLaw_c39 (a1 : Int32) (a2 : Int32) (u : gg_M) (k31 : Int32 × gg_M → Prop) (Q : gg_M → Prop) : Prop :=
  gg_loop (fun (s : Int32 × gg_M) k39 => b_X3_findLaw_c39 a1 s.1 s.2 k31 k39 Q) (a2, u)
set_option maxRecDepth 10000 in
theorem m_X3_findLaw_c39 {a1 : Int32} {a2 : Int32} {u : gg_M} {k31 : Int32 × gg_M → Prop} {G : gg_T} {Q : gg_M → Prop} (hG : gg_Cl none cX3_findLaw 4 RX3 none 4 (gg_eV Q) G)  (h : w_X3_findLaw_c39 a1 a2 u k31 Q)  (hk31 : ∀ s : Int32 × gg_M, k31 s → G 31 [some (.ref 33), some (.int s.1), none, none] [] s.2) : G 39 [some (.ref 33), some (.int a1), some (.int a2), none] [] u :=
  gg_loop_use (P := fun s : Int32 × gg_M => G 39 [some (.ref 33), some (.int a1), some (.int s.1), none] [] s.2) h (fun s rc hb hr => mb_X3_findLaw_c39 hG  hb  hk31 hr)
def b_X3_findLaw_c31  (a1 : Int32) (u : gg_M)  (k31 : Int32 × gg_M → Prop) (Q : gg_M → Prop) : Prop :=
  (9 < a1 →
   ∀ u5 : gg_M, u5 = gg_wI u 33 4 1 →
   Q u5) ∧
  (¬ 9 < a1 →
   w_X3_findLaw_c39 a1 0 u k31 Q)
set_option maxRecDepth 10000 in
theorem mb_X3_findLaw_c31  {a1 : Int32} {u : gg_M}  {k31 : Int32 × gg_M → Prop} {G : gg_T} {Q : gg_M → Prop} (hG : gg_Cl none cX3_findLaw 4 RX3 none 4 (gg_eV Q) G)  (h : b_X3_findLaw_c31 a1 u k31 Q)   (hk31 : ∀ s : Int32 × gg_M, k31 s → G 31 [some (.ref 33), some (.int s.1), none, none] [] s.2) : G 31 [some (.ref 33), some (.int a1), none, none] [] u := by
  unfold b_X3_findLaw_c31 at h
  refine gg_iload_n hG dX3_findLaw_31 rfl rfl ?_
  refine gg_bipush (v := 9) hG dX3_findLaw_32 (by decide) ?_
  refine gg_ic_gt (tgt := 77) hG dX3_findLaw_34 (by decide) (fun c4 => ?_) (fun c4 => ?_)
  · replace h := h.1 c4
    refine gg_aload_n hG dX3_findLaw_77 rfl rfl ?_
    refine gg_iconst (v := 1) hG dX3_findLaw_78 (by decide) ?_
    refine gg_putI hG dX3_findLaw_79 (by decide) rfl fp_RX3_32 rfl (gg_nb (Or.inr rfl)).1 (gg_nb (Or.inr rfl)).2 ?_
    refine gg_nu (fun u5 eu5 => ?_)
    replace h := h u5 eu5
    exact gg_vret hG dX3_findLaw_82 rfl ⟨rfl, h⟩
  · replace h := h.2 c4
    refine gg_iconst (v := 0) hG dX3_findLaw_37 (by decide) ?_
    refine gg_istore_n (L1 := [some (.ref 33), some (.int a1), some (.int 0), none]) hG dX3_findLaw_38 rfl (by decide) rfl ?_
    exact m_X3_findLaw_c39 hG h hk31
def w_X3_findLaw_c31 (a1 : Int32) (u : gg_M)  (Q : gg_M → Prop) : Prop :=
  gg_loop (fun (s : Int32 × gg_M) k31 => b_X3_findLaw_c31  s.1 s.2  k31 Q) (a1, u)
set_option maxRecDepth 10000 in
theorem m_X3_findLaw_c31 {a1 : Int32} {u : gg_M}  {G : gg_T} {Q : gg_M → Prop} (hG : gg_Cl none cX3_findLaw 4 RX3 none 4 (gg_eV Q) G)  (h : w_X3_findLaw_c31 a1 u  Q)   : G 31 [some (.ref 33), some (.int a1), none, none] [] u :=
  gg_loop_use (P := fun s : Int32 × gg_M => G 31 [some (.ref 33), some (.int s.1), none, none] [] s.2) h (fun s rc hb hr => mb_X3_findLaw_c31 hG  hb   hr)
def w_X3_findLaw  (u : gg_M)  (Q : gg_M → Prop) : Prop :=
  ((u.1 33 4) = 0 →
   w_J7_fill_53178 37 0 u (fun u7 =>
   w_X3_offBy 0 0 0 u7 (fun v9 u8 =>
   ∀ u10 : gg_M, u10 = gg_wI u8 37 3 v9 →
   w_X3_findLaw_c31 0 u10 Q))) ∧
  (¬ (u.1 33 4) = 0 →
   Q u)
set_option maxRecDepth 10000 in
theorem m_X3_findLaw  {u : gg_M}  {G : gg_T} {Q : gg_M → Prop} (hG : gg_Cl none cX3_findLaw 4 RX3 none 4 (gg_eV Q) G)  (h : w_X3_findLaw  u  Q)   : G 0 [some (.ref 33), none, none, none] [] u := by
  unfold w_X3_findLaw at h
  refine gg_aload_n hG dX3_findLaw_0 rfl rfl ?_
  refine gg_get (v := .int (u.1 33 4)) hG dX3_findLaw_1 (by decide) rfl fl_RX3_32 rfl ?_
  refine gg_if_eq (tgt := 8) hG dX3_findLaw_4 (by decide) (fun c6 => ?_) (fun c6 => ?_)
  · replace h := h.1 c6
    refine gg_aload_n hG dX3_findLaw_8 rfl rfl ?_
    refine gg_get (v := .ref 37) hG dX3_findLaw_9 (by decide) rfl fl_RX3_21 rfl ?_
    refine gg_iconst (v := 0) hG dX3_findLaw_12 (by decide) ?_
    refine gg_xs (As := [.ref 37, .int 0]) (st := []) hG dX3_findLaw_13 ml_RX3_50 Y_J7_fill_53178 YS_J7_fill_53178 (mt_J7_fill_53178 rfl h) rfl (by decide) (Nat.le_of_ble_eq_true rfl) rfl (gg_kv (fun u7 h => ?_))
    refine gg_aload_n hG dX3_findLaw_16 rfl rfl ?_
    refine gg_get (v := .ref 37) hG dX3_findLaw_17 (by decide) rfl fl_RX3_21 rfl ?_
    refine gg_iconst (v := 3) hG dX3_findLaw_20 (by decide) ?_
    refine gg_aload_n hG dX3_findLaw_21 rfl rfl ?_
    refine gg_iconst (v := 0) hG dX3_findLaw_22 (by decide) ?_
    refine gg_iconst (v := 0) hG dX3_findLaw_23 (by decide) ?_
    refine gg_iconst (v := 0) hG dX3_findLaw_24 (by decide) ?_
    refine gg_xv (As := [.int 0, .int 0, .int 0]) (st := [.int 3, .ref 37]) hG dX3_findLaw_25 ml_RX3_46 Y_X3_offBy YV_X3_offBy (by decide) ⟨_, rfl, rfl⟩ (mt_X3_offBy h) rfl (by decide) (Nat.le_of_ble_eq_true rfl) rfl (gg_ki (fun v9 u8 h => ?_))
    refine gg_iast (j := 3) hG dX3_findLaw_28 (by decide) rfl (gg_vin (by decide +kernel)) (by decide) ?_
    refine gg_nu (fun u10 eu10 => ?_)
    replace h := h u10 eu10
    refine gg_iconst (v := 0) hG dX3_findLaw_29 (by decide) ?_
    refine gg_istore_n (L1 := [some (.ref 33), some (.int 0), none, none]) hG dX3_findLaw_30 rfl (by decide) rfl ?_
    exact m_X3_findLaw_c31 hG h
  · replace h := h.2 c6
    exact gg_vret hG dX3_findLaw_7 rfl ⟨rfl, h⟩
theorem mt_X3_findLaw   {u : gg_M} {Q : gg_M → Prop} (h : w_X3_findLaw  u Q) : gg_Mt 4 yX3_findLaw cX3_findLaw 4 none [.ref 33] u (gg_eV Q) :=
  gg_intro (own := RX3) (by decide +kernel) rfl rfl (Nat.le_of_ble_eq_true rfl) (fun G hG => m_X3_findLaw hG  h)
/-! X4_qualityOf -/
def b_X4_qualityOf_c2 (a0 : Int32) (a1 : Int32) (u : gg_M)  (k2 : Int32 × gg_M → Prop) (Q : Int32 → gg_M → Prop) : Prop :=
  (7 ≤ a1 →
   Q (-1) u) ∧
  (¬ 7 ≤ a1 →
   vp_in a1 7 ∧
   (¬ (gg_sv 1 a1.toNatClampNeg) = a0 →
    k2 ((a1 + 1), u)) ∧
   ((gg_sv 1 a1.toNatClampNeg) = a0 →
    Q a1 u))
set_option maxRecDepth 10000 in
theorem mb_X4_qualityOf_c2 {a0 : Int32} {a1 : Int32} {u : gg_M}  {k2 : Int32 × gg_M → Prop} {G : gg_T} {Q : Int32 → gg_M → Prop} (hG : gg_Cl none cX4_qualityOf 2 RX4 (some .int) 1 (gg_eI Q) G)  (h : b_X4_qualityOf_c2 a0 a1 u k2 Q)   (hk2 : ∀ s : Int32 × gg_M, k2 s → G 2 [some (.int a0), some (.int s.1)] [] s.2) : G 2 [some (.int a0), some (.int a1)] [] u := by
  unfold b_X4_qualityOf_c2 at h
  refine gg_iload_n hG dX4_qualityOf_2 rfl rfl ?_
  refine gg_bipush (v := 7) hG dX4_qualityOf_3 (by decide) ?_
  refine gg_ic_ge (tgt := 25) hG dX4_qualityOf_5 (by decide) (fun c1 => ?_) (fun c1 => ?_)
  · replace h := h.1 c1
    refine gg_iconst (v := (-1)) hG dX4_qualityOf_25 (by decide) ?_
    exact gg_iret hG dX4_qualityOf_26 rfl rfl ⟨_, rfl, h⟩
  · replace h := h.2 c1
    refine gg_gets (k0 := 1) hG dX4_qualityOf_8 (by decide) fs_RX4_47 ?_
    refine gg_iload_n hG dX4_qualityOf_11 rfl rfl ?_
    obtain ⟨h2, h⟩ := h
    refine gg_tc (j := a1.toNatClampNeg) (k0 := 1) hG dX4_qualityOf_12 (by decide) rfl h2 rfl ?_
    refine gg_iload_n hG dX4_qualityOf_13 rfl rfl ?_
    refine gg_ic_ne (tgt := 19) hG dX4_qualityOf_14 (by decide) (fun c3 => ?_) (fun c3 => ?_)
    · replace h := h.1 c3
      refine gg_iinc (v := (a1 + 1)) (L1 := [some (.int a0), some (.int (a1 + 1))]) hG dX4_qualityOf_19 rfl rfl (by decide) rfl ?_
      refine gg_goto (tgt := 2) hG dX4_qualityOf_22 (by decide) ?_
      exact hk2 _ h
    · replace h := h.2 c3
      refine gg_iload_n hG dX4_qualityOf_17 rfl rfl ?_
      exact gg_iret hG dX4_qualityOf_18 rfl rfl ⟨_, rfl, h⟩
def w_X4_qualityOf_c2 (a0 : Int32) (a1 : Int32) (u : gg_M)  (Q : Int32 → gg_M → Prop) : Prop :=
  gg_loop (fun (s : Int32 × gg_M) k2 => b_X4_qualityOf_c2 a0 s.1 s.2  k2 Q) (a1, u)
set_option maxRecDepth 10000 in
theorem m_X4_qualityOf_c2 {a0 : Int32} {a1 : Int32} {u : gg_M}  {G : gg_T} {Q : Int32 → gg_M → Prop} (hG : gg_Cl none cX4_qualityOf 2 RX4 (some .int) 1 (gg_eI Q) G)  (h : w_X4_qualityOf_c2 a0 a1 u  Q)   : G 2 [some (.int a0), some (.int a1)] [] u :=
  gg_loop_use (P := fun s : Int32 × gg_M => G 2 [some (.int a0), some (.int s.1)] [] s.2) h (fun s rc hb hr => mb_X4_qualityOf_c2 hG  hb   hr)
def w_X4_qualityOf (a0 : Int32) (u : gg_M)  (Q : Int32 → gg_M → Prop) : Prop :=
  w_X4_qualityOf_c2 a0 0 u Q
set_option maxRecDepth 10000 in
theorem m_X4_qualityOf {a0 : Int32} {u : gg_M}  {G : gg_T} {Q : Int32 → gg_M → Prop} (hG : gg_Cl none cX4_qualityOf 2 RX4 (some .int) 1 (gg_eI Q) G)  (h : w_X4_qualityOf a0 u  Q)   : G 0 [some (.int a0), none] [] u := by
  unfold w_X4_qualityOf at h
  refine gg_iconst (v := 0) hG dX4_qualityOf_0 (by decide) ?_
  refine gg_istore_n (L1 := [some (.int a0), some (.int 0)]) hG dX4_qualityOf_1 rfl (by decide) rfl ?_
  exact m_X4_qualityOf_c2 hG h
theorem mt_X4_qualityOf {a0 : Int32}  {u : gg_M} {Q : Int32 → gg_M → Prop} (h : w_X4_qualityOf a0 u Q) : gg_Mt 1 yX4_qualityOf cX4_qualityOf 2 (some .int) [.int a0] u (gg_eI Q) :=
  gg_intro (own := RX4) (by decide +kernel) rfl rfl (Nat.le_of_ble_eq_true rfl) (fun G hG => m_X4_qualityOf hG  h)
/-! X8_byteAt -/
def w_X8_byteAt_c31 (z0 : Int32) (u : gg_M)  (Q : Int32 → gg_M → Prop) : Prop :=
  Q z0 u
set_option maxRecDepth 10000 in
theorem m_X8_byteAt_c31 {z0 : Int32} {u : gg_M}  {G : gg_T} {Q : Int32 → gg_M → Prop} (hG : gg_Cl none cX8_byteAt 2 RX8 (some .int) 1 (gg_eI Q) G)  (h : w_X8_byteAt_c31 z0 u  Q)   : G 31 [none, none] [.int z0] u := by
  unfold w_X8_byteAt_c31 at h
  exact gg_iret hG dX8_byteAt_31 rfl rfl ⟨_, rfl, h⟩
def w_X8_byteAt_c30  (u : gg_M)  (Q : Int32 → gg_M → Prop) : Prop :=
  w_X8_byteAt_c31 (-1) u Q
set_option maxRecDepth 10000 in
theorem m_X8_byteAt_c30  {u : gg_M}  {G : gg_T} {Q : Int32 → gg_M → Prop} (hG : gg_Cl none cX8_byteAt 2 RX8 (some .int) 1 (gg_eI Q) G)  (h : w_X8_byteAt_c30  u  Q)   : G 30 [none, none] [] u := by
  unfold w_X8_byteAt_c30 at h
  refine gg_iconst (v := (-1)) hG dX8_byteAt_30 (by decide) ?_
  exact m_X8_byteAt_c31 hG h
def w_X8_byteAt (t0 : Nat) (a1 : Int32) (u : gg_M)  (Q : Int32 → gg_M → Prop) : Prop :=
  (a1 < 0 →
   w_X8_byteAt_c30 u Q) ∧
  (¬ a1 < 0 →
   ((u.1 t0 1) ≤ a1 →
    w_X8_byteAt_c30 u Q) ∧
   (¬ (u.1 t0 1) ≤ a1 →
    ((Int32.ofNat (gg_al (gg_rf t0 0))) ≤ a1 →
     w_X8_byteAt_c30 u Q) ∧
    (¬ (Int32.ofNat (gg_al (gg_rf t0 0))) ≤ a1 →
     vp_in a1 (gg_al (gg_rf t0 0)) ∧
     w_X8_byteAt_c31 (u.1 (gg_rf t0 0) a1.toNatClampNeg) u Q)))
set_option maxRecDepth 10000 in
theorem m_X8_byteAt {t0 : Nat} {a1 : Int32} {u : gg_M}  {G : gg_T} {Q : Int32 → gg_M → Prop} (hG : gg_Cl none cX8_byteAt 2 RX8 (some .int) 1 (gg_eI Q) G) (kt0 : gg_kd t0 = 8) (h : w_X8_byteAt t0 a1 u  Q)   : G 0 [some (.ref t0), some (.int a1)] [] u := by
  unfold w_X8_byteAt at h
  refine gg_iload_n hG dX8_byteAt_0 rfl rfl ?_
  refine gg_if_lt (tgt := 30) hG dX8_byteAt_1 (by decide) (fun c1 => ?_) (fun c1 => ?_)
  · replace h := h.1 c1
    refine gg_mk hG [false, false] rfl ?_
    exact m_X8_byteAt_c30 hG h
  · replace h := h.2 c1
    refine gg_iload_n hG dX8_byteAt_4 rfl rfl ?_
    refine gg_aload_n hG dX8_byteAt_5 rfl rfl ?_
    refine gg_get (v := .int (u.1 t0 1)) hG dX8_byteAt_6 (gg_kd_lt kt0 (by decide)) kt0 fl_RX8_21 (gg_fvI kt0 rfl) ?_
    refine gg_ic_ge (tgt := 30) hG dX8_byteAt_9 (by decide) (fun c2 => ?_) (fun c2 => ?_)
    · replace h := h.1 c2
      refine gg_mk hG [false, false] rfl ?_
      exact m_X8_byteAt_c30 hG h
    · replace h := h.2 c2
      refine gg_iload_n hG dX8_byteAt_12 rfl rfl ?_
      refine gg_aload_n hG dX8_byteAt_13 rfl rfl ?_
      refine gg_get (v := .ref (gg_rf t0 0)) hG dX8_byteAt_14 (gg_kd_lt kt0 (by decide)) kt0 fl_RX8_15 (gg_fvR kt0 rfl) ?_
      refine gg_alen hG dX8_byteAt_17 (gg_kd_lt (gg_rf8 kt0) (by decide)) (gg_rf8 kt0) rfl ?_
      refine gg_ic_ge (tgt := 30) hG dX8_byteAt_18 (by decide) (fun c3 => ?_) (fun c3 => ?_)
      · replace h := h.1 c3
        refine gg_mk hG [false, false] rfl ?_
        exact m_X8_byteAt_c30 hG h
      · replace h := h.2 c3
        refine gg_aload_n hG dX8_byteAt_21 rfl rfl ?_
        refine gg_get (v := .ref (gg_rf t0 0)) hG dX8_byteAt_22 (gg_kd_lt kt0 (by decide)) kt0 fl_RX8_15 (gg_fvR kt0 rfl) ?_
        refine gg_iload_n hG dX8_byteAt_25 rfl rfl ?_
        obtain ⟨h4, h⟩ := h
        refine gg_iald (j := a1.toNatClampNeg) hG dX8_byteAt_26 (gg_kd_lt (gg_rf8 kt0) (by decide)) (gg_rf8 kt0) h4 rfl ?_
        refine gg_goto (tgt := 31) hG dX8_byteAt_27 (by decide) ?_
        refine gg_mk hG [false, false] rfl ?_
        exact m_X8_byteAt_c31 hG h
theorem mt_X8_byteAt {t0 : Nat} {a1 : Int32} (kt0 : gg_kd t0 = 8) {u : gg_M} {Q : Int32 → gg_M → Prop} (h : w_X8_byteAt t0 a1 u Q) : gg_Mt 1 yX8_byteAt cX8_byteAt 2 (some .int) [.ref t0, .int a1] u (gg_eI Q) :=
  gg_intro (own := RX8) (by decide +kernel) rfl rfl (Nat.le_of_ble_eq_true rfl) (fun G hG => m_X8_byteAt hG kt0 h)
/-! X8_figureAt -/
def w_X8_figureAt_c26 (z0 : Int32) (u : gg_M)  (Q : Int32 → gg_M → Prop) : Prop :=
  Q z0 u
set_option maxRecDepth 10000 in
theorem m_X8_figureAt_c26 {z0 : Int32} {u : gg_M}  {G : gg_T} {Q : Int32 → gg_M → Prop} (hG : gg_Cl none cX8_figureAt 3 RX8 (some .int) 2 (gg_eI Q) G)  (h : w_X8_figureAt_c26 z0 u  Q)   : G 26 [none, none, none] [.int z0] u := by
  unfold w_X8_figureAt_c26 at h
  exact gg_iret hG dX8_figureAt_26 rfl rfl ⟨_, rfl, h⟩
def w_X8_figureAt_c25  (u : gg_M)  (Q : Int32 → gg_M → Prop) : Prop :=
  w_X8_figureAt_c26 (-1) u Q
set_option maxRecDepth 10000 in
theorem m_X8_figureAt_c25  {u : gg_M}  {G : gg_T} {Q : Int32 → gg_M → Prop} (hG : gg_Cl none cX8_figureAt 3 RX8 (some .int) 2 (gg_eI Q) G)  (h : w_X8_figureAt_c25  u  Q)   : G 25 [none, none, none] [] u := by
  unfold w_X8_figureAt_c25 at h
  refine gg_iconst (v := (-1)) hG dX8_figureAt_25 (by decide) ?_
  exact m_X8_figureAt_c26 hG h
def w_X8_figureAt (t0 : Nat) (a1 : Int32) (u : gg_M)  (Q : Int32 → gg_M → Prop) : Prop :=
  w_X8_byteAt t0 a1 u (fun v2 u1 =>
  (v2 < 48 →
   w_X8_figureAt_c25 u1 Q) ∧
  (¬ v2 < 48 →
   (57 < v2 →
    w_X8_figureAt_c25 u1 Q) ∧
   (¬ 57 < v2 →
    w_X8_figureAt_c26 (v2 - 48) u1 Q)))
set_option maxRecDepth 10000 in
theorem m_X8_figureAt {t0 : Nat} {a1 : Int32} {u : gg_M}  {G : gg_T} {Q : Int32 → gg_M → Prop} (hG : gg_Cl none cX8_figureAt 3 RX8 (some .int) 2 (gg_eI Q) G) (kt0 : gg_kd t0 = 8) (h : w_X8_figureAt t0 a1 u  Q)   : G 0 [some (.ref t0), some (.int a1), none] [] u := by
  unfold w_X8_figureAt at h
  refine gg_aload_n hG dX8_figureAt_0 rfl rfl ?_
  refine gg_iload_n hG dX8_figureAt_1 rfl rfl ?_
  refine gg_xv (As := [.int a1]) (st := []) hG dX8_figureAt_2 ml_RX8_25 Y_X8_byteAt YV_X8_byteAt (gg_kd_lt kt0 (by decide)) (gg_rcv kt0 rfl) (mt_X8_byteAt kt0 h) rfl (by decide) (Nat.le_of_ble_eq_true rfl) rfl (gg_ki (fun v2 u1 h => ?_))
  refine gg_istore_n (L1 := [some (.ref t0), some (.int a1), some (.int v2)]) hG dX8_figureAt_5 rfl (by decide) rfl ?_
  refine gg_iload_n hG dX8_figureAt_6 rfl rfl ?_
  refine gg_bipush (v := 48) hG dX8_figureAt_7 (by decide) ?_
  refine gg_ic_lt (tgt := 25) hG dX8_figureAt_9 (by decide) (fun c3 => ?_) (fun c3 => ?_)
  · replace h := h.1 c3
    refine gg_mk hG [false, false, false] rfl ?_
    exact m_X8_figureAt_c25 hG h
  · replace h := h.2 c3
    refine gg_iload_n hG dX8_figureAt_12 rfl rfl ?_
    refine gg_bipush (v := 57) hG dX8_figureAt_13 (by decide) ?_
    refine gg_ic_gt (tgt := 25) hG dX8_figureAt_15 (by decide) (fun c4 => ?_) (fun c4 => ?_)
    · replace h := h.1 c4
      refine gg_mk hG [false, false, false] rfl ?_
      exact m_X8_figureAt_c25 hG h
    · replace h := h.2 c4
      refine gg_iload_n hG dX8_figureAt_18 rfl rfl ?_
      refine gg_bipush (v := 48) hG dX8_figureAt_19 (by decide) ?_
      refine gg_isub hG dX8_figureAt_21 ?_
      refine gg_goto (tgt := 26) hG dX8_figureAt_22 (by decide) ?_
      refine gg_mk hG [false, false, false] rfl ?_
      exact m_X8_figureAt_c26 hG h
theorem mt_X8_figureAt {t0 : Nat} {a1 : Int32} (kt0 : gg_kd t0 = 8) {u : gg_M} {Q : Int32 → gg_M → Prop} (h : w_X8_figureAt t0 a1 u Q) : gg_Mt 2 yX8_figureAt cX8_figureAt 3 (some .int) [.ref t0, .int a1] u (gg_eI Q) :=
  gg_intro (own := RX8) (by decide +kernel) rfl rfl (Nat.le_of_ble_eq_true rfl) (fun G hG => m_X8_figureAt hG kt0 h)
/-! X4_faultOf -/
def w_X4_faultOf_c149  (u : gg_M)  (Q : Int32 → gg_M → Prop) : Prop :=
  Q (-1) u
set_option maxRecDepth 10000 in
theorem m_X4_faultOf_c149  {u : gg_M}  {G : gg_T} {Q : Int32 → gg_M → Prop} (hG : gg_Cl none cX4_faultOf 8 RX4 (some .int) 3 (gg_eI Q) G)  (h : w_X4_faultOf_c149  u  Q)   : G 149 [none, none, none, none, none, none, none, none] [] u := by
  unfold w_X4_faultOf_c149 at h
  refine gg_iconst (v := (-1)) hG dX4_faultOf_149 (by decide) ?_
  exact gg_iret hG dX4_faultOf_150 rfl rfl ⟨_, rfl, h⟩
def w_X4_faultOf_c116 (t1 : Nat) (a3 : Int32) (z0 : Int32) (z1 : Int32) (u : gg_M) (k4 : Int32 × Int32 × gg_M → Prop) (Q : Int32 → gg_M → Prop) : Prop :=
  ∀ v1 : Int32, v1 = (z0 + z1) →
  (v1 < (u.1 t1 1) →
   w_X8_byteAt t1 v1 u (fun v4 u3 =>
   (v4 = 59 →
    k4 ((v1 + 1), (a3 + 1), u3)) ∧
   (¬ v4 = 59 →
    Q v1 u3))) ∧
  (¬ v1 < (u.1 t1 1) →
   Q (-1) u)
set_option maxRecDepth 10000 in
theorem m_X4_faultOf_c116 {t1 : Nat} {a3 : Int32} {z0 : Int32} {z1 : Int32} {u : gg_M} {k4 : Int32 × Int32 × gg_M → Prop} {G : gg_T} {Q : Int32 → gg_M → Prop} (hG : gg_Cl none cX4_faultOf 8 RX4 (some .int) 3 (gg_eI Q) G) (kt1 : gg_kd t1 = 8) (h : w_X4_faultOf_c116 t1 a3 z0 z1 u k4 Q)  (hk4 : ∀ s : Int32 × Int32 × gg_M, k4 s → G 4 [some (.ref 6), some (.ref t1), some (.int s.1), some (.int s.2.1), none, none, none, none] [] s.2.2) : G 116 [some (.ref 6), some (.ref t1), none, some (.int a3), none, none, none, none] [.int z1, .int z0] u := by
  unfold w_X4_faultOf_c116 at h
  refine gg_iadd hG dX4_faultOf_116 ?_
  refine gg_ni (fun v1 e1 => ?_)
  replace h := h v1 e1
  refine gg_istore_n (L1 := [some (.ref 6), some (.ref t1), some (.int v1), some (.int a3), none, none, none, none]) hG dX4_faultOf_117 rfl (by decide) rfl ?_
  refine gg_iload_n hG dX4_faultOf_118 rfl rfl ?_
  refine gg_aload_n hG dX4_faultOf_119 rfl rfl ?_
  refine gg_get (v := .int (u.1 t1 1)) hG dX4_faultOf_120 (gg_kd_lt kt1 (by decide)) kt1 fl_RX4_29 (gg_fvI kt1 rfl) ?_
  refine gg_ic_lt (tgt := 128) hG dX4_faultOf_123 (by decide) (fun c2 => ?_) (fun c2 => ?_)
  · replace h := h.1 c2
    refine gg_aload_n hG dX4_faultOf_128 rfl rfl ?_
    refine gg_iload_n hG dX4_faultOf_129 rfl rfl ?_
    refine gg_xv (As := [.int v1]) (st := []) hG dX4_faultOf_130 ml_RX4_34 Y_X8_byteAt YV_X8_byteAt (gg_kd_lt kt1 (by decide)) (gg_rcv kt1 rfl) (mt_X8_byteAt kt1 h) rfl (by decide) (Nat.le_of_ble_eq_true rfl) rfl (gg_ki (fun v4 u3 h => ?_))
    refine gg_bipush (v := 59) hG dX4_faultOf_133 (by decide) ?_
    refine gg_ic_eq (tgt := 140) hG dX4_faultOf_135 (by decide) (fun c5 => ?_) (fun c5 => ?_)
    · replace h := h.1 c5
      refine gg_iinc (v := (v1 + 1)) (L1 := [some (.ref 6), some (.ref t1), some (.int (v1 + 1)), some (.int a3), none, none, none, none]) hG dX4_faultOf_140 rfl rfl (by decide) rfl ?_
      refine gg_iinc (v := (a3 + 1)) (L1 := [some (.ref 6), some (.ref t1), some (.int (v1 + 1)), some (.int (a3 + 1)), none, none, none, none]) hG dX4_faultOf_143 rfl rfl (by decide) rfl ?_
      refine gg_goto (tgt := 4) hG dX4_faultOf_146 (by decide) ?_
      exact hk4 _ h
    · replace h := h.2 c5
      refine gg_iload_n hG dX4_faultOf_138 rfl rfl ?_
      exact gg_iret hG dX4_faultOf_139 rfl rfl ⟨_, rfl, h⟩
  · replace h := h.2 c2
    refine gg_iconst (v := (-1)) hG dX4_faultOf_126 (by decide) ?_
    exact gg_iret hG dX4_faultOf_127 rfl rfl ⟨_, rfl, h⟩
def w_X4_faultOf_c91 (a2 : Int32) (u : gg_M)  (Q : Int32 → gg_M → Prop) : Prop :=
  Q (a2 + 1) u
set_option maxRecDepth 10000 in
theorem m_X4_faultOf_c91 {a2 : Int32} {u : gg_M}  {G : gg_T} {Q : Int32 → gg_M → Prop} (hG : gg_Cl none cX4_faultOf 8 RX4 (some .int) 3 (gg_eI Q) G)  (h : w_X4_faultOf_c91 a2 u  Q)   : G 91 [none, none, some (.int a2), none, none, none, none, none] [] u := by
  unfold w_X4_faultOf_c91 at h
  refine gg_iload_n hG dX4_faultOf_91 rfl rfl ?_
  refine gg_iconst (v := 1) hG dX4_faultOf_92 (by decide) ?_
  refine gg_iadd hG dX4_faultOf_93 ?_
  exact gg_iret hG dX4_faultOf_94 rfl rfl ⟨_, rfl, h⟩
def w_X4_faultOf_c72 (t1 : Nat) (a2 : Int32) (a3 : Int32) (a4 : Int32) (a5 : Int32) (a6 : Int32) (z0 : Int32) (u : gg_M) (k4 : Int32 × Int32 × gg_M → Prop) (Q : Int32 → gg_M → Prop) : Prop :=
  (a5 = (-1) →
   w_X4_faultOf_c91 a2 u Q) ∧
  (¬ a5 = (-1) →
   vp_in a4 7 ∧
   (z0 ≤ (gg_sv 3 a4.toNatClampNeg) →
    vp_in a4 7 ∧
    ∀ u10 : gg_M, u10 = gg_wI u 7 a4.toNatClampNeg z0 →
    (¬ a6 = (-1) →
     w_X4_faultOf_c116 t1 a3 a2 3 u10 k4 Q) ∧
    (a6 = (-1) →
     w_X4_faultOf_c116 t1 a3 a2 2 u10 k4 Q)) ∧
   (¬ z0 ≤ (gg_sv 3 a4.toNatClampNeg) →
    w_X4_faultOf_c91 a2 u Q))
set_option maxRecDepth 10000 in
theorem m_X4_faultOf_c72 {t1 : Nat} {a2 : Int32} {a3 : Int32} {a4 : Int32} {a5 : Int32} {a6 : Int32} {z0 : Int32} {u : gg_M} {k4 : Int32 × Int32 × gg_M → Prop} {G : gg_T} {Q : Int32 → gg_M → Prop} (hG : gg_Cl none cX4_faultOf 8 RX4 (some .int) 3 (gg_eI Q) G) (kt1 : gg_kd t1 = 8) (h : w_X4_faultOf_c72 t1 a2 a3 a4 a5 a6 z0 u k4 Q)  (hk4 : ∀ s : Int32 × Int32 × gg_M, k4 s → G 4 [some (.ref 6), some (.ref t1), some (.int s.1), some (.int s.2.1), none, none, none, none] [] s.2.2) : G 72 [some (.ref 6), some (.ref t1), some (.int a2), some (.int a3), some (.int a4), some (.int a5), some (.int a6), none] [.int z0] u := by
  unfold w_X4_faultOf_c72 at h
  refine gg_istore (L1 := [some (.ref 6), some (.ref t1), some (.int a2), some (.int a3), some (.int a4), some (.int a5), some (.int a6), some (.int z0)]) hG dX4_faultOf_72 (by decide) rfl ?_
  refine gg_iload hG dX4_faultOf_74 rfl ?_
  refine gg_iconst (v := (-1)) hG dX4_faultOf_76 (by decide) ?_
  refine gg_ic_eq (tgt := 91) hG dX4_faultOf_77 (by decide) (fun c6 => ?_) (fun c6 => ?_)
  · replace h := h.1 c6
    refine gg_mk hG [false, false, true, false, false, false, false, false] rfl ?_
    exact m_X4_faultOf_c91 hG h
  · replace h := h.2 c6
    refine gg_iload hG dX4_faultOf_80 rfl ?_
    refine gg_gets (k0 := 3) hG dX4_faultOf_82 (by decide) fs_RX4_44 ?_
    refine gg_iload hG dX4_faultOf_85 rfl ?_
    obtain ⟨h7, h⟩ := h
    refine gg_ti (j := a4.toNatClampNeg) (k0 := 3) hG dX4_faultOf_87 (by decide) rfl h7 rfl ?_
    refine gg_ic_le (tgt := 95) hG dX4_faultOf_88 (by decide) (fun c8 => ?_) (fun c8 => ?_)
    · replace h := h.1 c8
      refine gg_aload_n hG dX4_faultOf_95 rfl rfl ?_
      refine gg_get (v := .ref 7) hG dX4_faultOf_96 (by decide) rfl fl_RX4_9 rfl ?_
      refine gg_iload hG dX4_faultOf_99 rfl ?_
      refine gg_iload hG dX4_faultOf_101 rfl ?_
      obtain ⟨h9, h⟩ := h
      refine gg_iast (j := a4.toNatClampNeg) hG dX4_faultOf_103 (by decide) rfl h9 rfl ?_
      refine gg_nu (fun u10 eu10 => ?_)
      replace h := h u10 eu10
      refine gg_iload_n hG dX4_faultOf_104 rfl rfl ?_
      refine gg_iload hG dX4_faultOf_105 rfl ?_
      refine gg_iconst (v := (-1)) hG dX4_faultOf_107 (by decide) ?_
      refine gg_ic_ne (tgt := 115) hG dX4_faultOf_108 (by decide) (fun c11 => ?_) (fun c11 => ?_)
      · replace h := h.1 c11
        refine gg_iconst (v := 3) hG dX4_faultOf_115 (by decide) ?_
        refine gg_mk hG [true, true, false, true, false, false, false, false] rfl ?_
        exact m_X4_faultOf_c116 hG kt1 h hk4
      · replace h := h.2 c11
        refine gg_iconst (v := 2) hG dX4_faultOf_111 (by decide) ?_
        refine gg_goto (tgt := 116) hG dX4_faultOf_112 (by decide) ?_
        refine gg_mk hG [true, true, false, true, false, false, false, false] rfl ?_
        exact m_X4_faultOf_c116 hG kt1 h hk4
    · replace h := h.2 c8
      refine gg_mk hG [false, false, true, false, false, false, false, false] rfl ?_
      exact m_X4_faultOf_c91 hG h
def b_X4_faultOf_c4 (t1 : Nat) (a2 : Int32) (a3 : Int32) (u : gg_M)  (k4 : Int32 × Int32 × gg_M → Prop) (Q : Int32 → gg_M → Prop) : Prop :=
  (60 ≤ a3 →
   w_X4_faultOf_c149 u Q) ∧
  (¬ 60 ≤ a3 →
   ((u.1 t1 1) ≤ 0 →
    w_X4_faultOf_c149 u Q) ∧
   (¬ (u.1 t1 1) ≤ 0 →
    w_X8_byteAt t1 a2 u (fun v15 u14 =>
    w_X4_qualityOf v15 u14 (fun v17 u16 =>
    (¬ v17 = (-1) →
     w_X8_figureAt t1 (a2 + 1) u16 (fun v20 u19 =>
     w_X8_figureAt t1 (a2 + 2) u19 (fun v22 u21 =>
     (¬ v22 = (-1) →
      w_X4_faultOf_c72 t1 a2 a3 v17 v20 v22 (((10 : Int32) * v20) + v22) u21 k4 Q) ∧
     (v22 = (-1) →
      w_X4_faultOf_c72 t1 a2 a3 v17 v20 v22 v20 u21 k4 Q)))) ∧
    (v17 = (-1) →
     Q a2 u16)))))
set_option maxRecDepth 10000 in
theorem mb_X4_faultOf_c4 {t1 : Nat} {a2 : Int32} {a3 : Int32} {u : gg_M}  {k4 : Int32 × Int32 × gg_M → Prop} {G : gg_T} {Q : Int32 → gg_M → Prop} (hG : gg_Cl none cX4_faultOf 8 RX4 (some .int) 3 (gg_eI Q) G) (kt1 : gg_kd t1 = 8) (h : b_X4_faultOf_c4 t1 a2 a3 u k4 Q)   (hk4 : ∀ s : Int32 × Int32 × gg_M, k4 s → G 4 [some (.ref 6), some (.ref t1), some (.int s.1), some (.int s.2.1), none, none, none, none] [] s.2.2) : G 4 [some (.ref 6), some (.ref t1), some (.int a2), some (.int a3), none, none, none, none] [] u := by
  unfold b_X4_faultOf_c4 at h
  refine gg_iload_n hG dX4_faultOf_4 rfl rfl ?_
  refine gg_bipush (v := 60) hG dX4_faultOf_5 (by decide) ?_
  refine gg_ic_ge (tgt := 149) hG dX4_faultOf_7 (by decide) (fun c12 => ?_) (fun c12 => ?_)
  · replace h := h.1 c12
    refine gg_mk hG [false, false, false, false, false, false, false, false] rfl ?_
    exact m_X4_faultOf_c149 hG h
  · replace h := h.2 c12
    refine gg_aload_n hG dX4_faultOf_10 rfl rfl ?_
    refine gg_get (v := .int (u.1 t1 1)) hG dX4_faultOf_11 (gg_kd_lt kt1 (by decide)) kt1 fl_RX4_29 (gg_fvI kt1 rfl) ?_
    refine gg_if_le (tgt := 149) hG dX4_faultOf_14 (by decide) (fun c13 => ?_) (fun c13 => ?_)
    · replace h := h.1 c13
      refine gg_mk hG [false, false, false, false, false, false, false, false] rfl ?_
      exact m_X4_faultOf_c149 hG h
    · replace h := h.2 c13
      refine gg_aload_n hG dX4_faultOf_17 rfl rfl ?_
      refine gg_iload_n hG dX4_faultOf_18 rfl rfl ?_
      refine gg_xv (As := [.int a2]) (st := []) hG dX4_faultOf_19 ml_RX4_34 Y_X8_byteAt YV_X8_byteAt (gg_kd_lt kt1 (by decide)) (gg_rcv kt1 rfl) (mt_X8_byteAt kt1 h) rfl (by decide) (Nat.le_of_ble_eq_true rfl) rfl (gg_ki (fun v15 u14 h => ?_))
      refine gg_xs (As := [.int v15]) (st := []) hG dX4_faultOf_22 ml_RX4_38 Y_X4_qualityOf YS_X4_qualityOf (mt_X4_qualityOf h) rfl (by decide) (Nat.le_of_ble_eq_true rfl) rfl (gg_ki (fun v17 u16 h => ?_))
      refine gg_istore (L1 := [some (.ref 6), some (.ref t1), some (.int a2), some (.int a3), some (.int v17), none, none, none]) hG dX4_faultOf_25 (by decide) rfl ?_
      refine gg_iload hG dX4_faultOf_27 rfl ?_
      refine gg_iconst (v := (-1)) hG dX4_faultOf_29 (by decide) ?_
      refine gg_ic_ne (tgt := 35) hG dX4_faultOf_30 (by decide) (fun c18 => ?_) (fun c18 => ?_)
      · replace h := h.1 c18
        refine gg_aload_n hG dX4_faultOf_35 rfl rfl ?_
        refine gg_iload_n hG dX4_faultOf_36 rfl rfl ?_
        refine gg_iconst (v := 1) hG dX4_faultOf_37 (by decide) ?_
        refine gg_iadd hG dX4_faultOf_38 ?_
        refine gg_xv (As := [.int (a2 + 1)]) (st := []) hG dX4_faultOf_39 ml_RX4_41 Y_X8_figureAt YV_X8_figureAt (gg_kd_lt kt1 (by decide)) (gg_rcv kt1 rfl) (mt_X8_figureAt kt1 h) rfl (by decide) (Nat.le_of_ble_eq_true rfl) rfl (gg_ki (fun v20 u19 h => ?_))
        refine gg_istore (L1 := [some (.ref 6), some (.ref t1), some (.int a2), some (.int a3), some (.int v17), some (.int v20), none, none]) hG dX4_faultOf_42 (by decide) rfl ?_
        refine gg_aload_n hG dX4_faultOf_44 rfl rfl ?_
        refine gg_iload_n hG dX4_faultOf_45 rfl rfl ?_
        refine gg_iconst (v := 2) hG dX4_faultOf_46 (by decide) ?_
        refine gg_iadd hG dX4_faultOf_47 ?_
        refine gg_xv (As := [.int (a2 + 2)]) (st := []) hG dX4_faultOf_48 ml_RX4_41 Y_X8_figureAt YV_X8_figureAt (gg_kd_lt kt1 (by decide)) (gg_rcv kt1 rfl) (mt_X8_figureAt kt1 h) rfl (by decide) (Nat.le_of_ble_eq_true rfl) rfl (gg_ki (fun v22 u21 h => ?_))
        refine gg_istore (L1 := [some (.ref 6), some (.ref t1), some (.int a2), some (.int a3), some (.int v17), some (.int v20), some (.int v22), none]) hG dX4_faultOf_51 (by decide) rfl ?_
        refine gg_iload hG dX4_faultOf_53 rfl ?_
        refine gg_iconst (v := (-1)) hG dX4_faultOf_55 (by decide) ?_
        refine gg_ic_ne (tgt := 64) hG dX4_faultOf_56 (by decide) (fun c23 => ?_) (fun c23 => ?_)
        · replace h := h.1 c23
          refine gg_bipush (v := 10) hG dX4_faultOf_64 (by decide) ?_
          refine gg_iload hG dX4_faultOf_66 rfl ?_
          refine gg_imul hG dX4_faultOf_68 ?_
          refine gg_iload hG dX4_faultOf_69 rfl ?_
          refine gg_iadd hG dX4_faultOf_71 ?_
          exact m_X4_faultOf_c72 hG kt1 h hk4
        · replace h := h.2 c23
          refine gg_iload hG dX4_faultOf_59 rfl ?_
          refine gg_goto (tgt := 72) hG dX4_faultOf_61 (by decide) ?_
          exact m_X4_faultOf_c72 hG kt1 h hk4
      · replace h := h.2 c18
        refine gg_iload_n hG dX4_faultOf_33 rfl rfl ?_
        exact gg_iret hG dX4_faultOf_34 rfl rfl ⟨_, rfl, h⟩
def w_X4_faultOf_c4 (t1 : Nat) (a2 : Int32) (a3 : Int32) (u : gg_M)  (Q : Int32 → gg_M → Prop) : Prop :=
  gg_loop (fun (s : Int32 × Int32 × gg_M) k4 => b_X4_faultOf_c4 t1 s.1 s.2.1 s.2.2  k4 Q) (a2, a3, u)
set_option maxRecDepth 10000 in
theorem m_X4_faultOf_c4 {t1 : Nat} {a2 : Int32} {a3 : Int32} {u : gg_M}  {G : gg_T} {Q : Int32 → gg_M → Prop} (hG : gg_Cl none cX4_faultOf 8 RX4 (some .int) 3 (gg_eI Q) G) (kt1 : gg_kd t1 = 8) (h : w_X4_faultOf_c4 t1 a2 a3 u  Q)   : G 4 [some (.ref 6), some (.ref t1), some (.int a2), some (.int a3), none, none, none, none] [] u :=
  gg_loop_use (P := fun s : Int32 × Int32 × gg_M => G 4 [some (.ref 6), some (.ref t1), some (.int s.1), some (.int s.2.1), none, none, none, none] [] s.2.2) h (fun s rc hb hr => mb_X4_faultOf_c4 hG kt1 hb   hr)
def w_X4_faultOf (t1 : Nat) (u : gg_M)  (Q : Int32 → gg_M → Prop) : Prop :=
  w_X4_faultOf_c4 t1 0 0 u Q
set_option maxRecDepth 10000 in
theorem m_X4_faultOf {t1 : Nat} {u : gg_M}  {G : gg_T} {Q : Int32 → gg_M → Prop} (hG : gg_Cl none cX4_faultOf 8 RX4 (some .int) 3 (gg_eI Q) G) (kt1 : gg_kd t1 = 8) (h : w_X4_faultOf t1 u  Q)   : G 0 [some (.ref 6), some (.ref t1), none, none, none, none, none, none] [] u := by
  unfold w_X4_faultOf at h
  refine gg_iconst (v := 0) hG dX4_faultOf_0 (by decide) ?_
  refine gg_istore_n (L1 := [some (.ref 6), some (.ref t1), some (.int 0), none, none, none, none, none]) hG dX4_faultOf_1 rfl (by decide) rfl ?_
  refine gg_iconst (v := 0) hG dX4_faultOf_2 (by decide) ?_
  refine gg_istore_n (L1 := [some (.ref 6), some (.ref t1), some (.int 0), some (.int 0), none, none, none, none]) hG dX4_faultOf_3 rfl (by decide) rfl ?_
  exact m_X4_faultOf_c4 hG kt1 h
theorem mt_X4_faultOf {t1 : Nat} (kt1 : gg_kd t1 = 8) {u : gg_M} {Q : Int32 → gg_M → Prop} (h : w_X4_faultOf t1 u Q) : gg_Mt 3 yX4_faultOf cX4_faultOf 8 (some .int) [.ref 6, .ref t1] u (gg_eI Q) :=
  gg_intro (own := RX4) (by decide +kernel) rfl rfl (Nat.le_of_ble_eq_true rfl) (fun G hG => m_X4_faultOf hG kt1 h)
/-! X4_reset -/
def b_X4_reset_c2  (a1 : Int32) (u : gg_M)  (k2 : Int32 × gg_M → Prop) (Q : gg_M → Prop) : Prop :=
  (7 ≤ a1 →
   Q u) ∧
  (¬ 7 ≤ a1 →
   vp_in a1 7 ∧
   vp_in a1 7 ∧
   ∀ u4 : gg_M, u4 = gg_wI u 7 a1.toNatClampNeg (gg_sv 2 a1.toNatClampNeg) →
   k2 ((a1 + 1), u4))
set_option maxRecDepth 10000 in
theorem mb_X4_reset_c2  {a1 : Int32} {u : gg_M}  {k2 : Int32 × gg_M → Prop} {G : gg_T} {Q : gg_M → Prop} (hG : gg_Cl none cX4_reset 2 RX4 none 1 (gg_eV Q) G)  (h : b_X4_reset_c2 a1 u k2 Q)   (hk2 : ∀ s : Int32 × gg_M, k2 s → G 2 [some (.ref 6), some (.int s.1)] [] s.2) : G 2 [some (.ref 6), some (.int a1)] [] u := by
  unfold b_X4_reset_c2 at h
  refine gg_iload_n hG dX4_reset_2 rfl rfl ?_
  refine gg_bipush (v := 7) hG dX4_reset_3 (by decide) ?_
  refine gg_ic_ge (tgt := 25) hG dX4_reset_5 (by decide) (fun c1 => ?_) (fun c1 => ?_)
  · replace h := h.1 c1
    exact gg_vret hG dX4_reset_25 rfl ⟨rfl, h⟩
  · replace h := h.2 c1
    refine gg_aload_n hG dX4_reset_8 rfl rfl ?_
    refine gg_get (v := .ref 7) hG dX4_reset_9 (by decide) rfl fl_RX4_9 rfl ?_
    refine gg_iload_n hG dX4_reset_12 rfl rfl ?_
    refine gg_gets (k0 := 2) hG dX4_reset_13 (by decide) fs_RX4_26 ?_
    refine gg_iload_n hG dX4_reset_16 rfl rfl ?_
    obtain ⟨h2, h⟩ := h
    refine gg_ti (j := a1.toNatClampNeg) (k0 := 2) hG dX4_reset_17 (by decide) rfl h2 rfl ?_
    obtain ⟨h3, h⟩ := h
    refine gg_iast (j := a1.toNatClampNeg) hG dX4_reset_18 (by decide) rfl h3 rfl ?_
    refine gg_nu (fun u4 eu4 => ?_)
    replace h := h u4 eu4
    refine gg_iinc (v := (a1 + 1)) (L1 := [some (.ref 6), some (.int (a1 + 1))]) hG dX4_reset_19 rfl rfl (by decide) rfl ?_
    refine gg_goto (tgt := 2) hG dX4_reset_22 (by decide) ?_
    exact hk2 _ h
def w_X4_reset_c2 (a1 : Int32) (u : gg_M)  (Q : gg_M → Prop) : Prop :=
  gg_loop (fun (s : Int32 × gg_M) k2 => b_X4_reset_c2  s.1 s.2  k2 Q) (a1, u)
set_option maxRecDepth 10000 in
theorem m_X4_reset_c2 {a1 : Int32} {u : gg_M}  {G : gg_T} {Q : gg_M → Prop} (hG : gg_Cl none cX4_reset 2 RX4 none 1 (gg_eV Q) G)  (h : w_X4_reset_c2 a1 u  Q)   : G 2 [some (.ref 6), some (.int a1)] [] u :=
  gg_loop_use (P := fun s : Int32 × gg_M => G 2 [some (.ref 6), some (.int s.1)] [] s.2) h (fun s rc hb hr => mb_X4_reset_c2 hG  hb   hr)
def w_X4_reset  (u : gg_M)  (Q : gg_M → Prop) : Prop :=
  w_X4_reset_c2 0 u Q
set_option maxRecDepth 10000 in
theorem m_X4_reset  {u : gg_M}  {G : gg_T} {Q : gg_M → Prop} (hG : gg_Cl none cX4_reset 2 RX4 none 1 (gg_eV Q) G)  (h : w_X4_reset  u  Q)   : G 0 [some (.ref 6), none] [] u := by
  unfold w_X4_reset at h
  refine gg_iconst (v := 0) hG dX4_reset_0 (by decide) ?_
  refine gg_istore_n (L1 := [some (.ref 6), some (.int 0)]) hG dX4_reset_1 rfl (by decide) rfl ?_
  exact m_X4_reset_c2 hG h
theorem mt_X4_reset   {u : gg_M} {Q : gg_M → Prop} (h : w_X4_reset  u Q) : gg_Mt 1 yX4_reset cX4_reset 2 none [.ref 6] u (gg_eV Q) :=
  gg_intro (own := RX4) (by decide +kernel) rfl rfl (Nat.le_of_ble_eq_true rfl) (fun G hG => m_X4_reset hG  h)
/-! X4_learn -/
def w_X4_learn_c25  (u : gg_M)  (Q : gg_M → Prop) : Prop :=
  Q u
set_option maxRecDepth 10000 in
theorem m_X4_learn_c25  {u : gg_M}  {G : gg_T} {Q : gg_M → Prop} (hG : gg_Cl none cX4_learn 2 RX4 none 4 (gg_eV Q) G)  (h : w_X4_learn_c25  u  Q)   : G 25 [none, none] [] u := by
  unfold w_X4_learn_c25 at h
  exact gg_vret hG dX4_learn_25 rfl ⟨rfl, h⟩
def w_X4_learn (t1 : Nat) (u : gg_M)  (Q : gg_M → Prop) : Prop :=
  w_X4_reset u (fun u1 =>
  w_X4_faultOf t1 u1 (fun v3 u2 =>
  ∀ u4 : gg_M, u4 = gg_wI u2 6 1 v3 →
  ((u4.1 6 1) = (-1) →
   w_X4_learn_c25 u4 Q) ∧
  (¬ (u4.1 6 1) = (-1) →
   w_X4_reset u4 (fun u6 =>
   w_X4_learn_c25 u6 Q))))
set_option maxRecDepth 10000 in
theorem m_X4_learn {t1 : Nat} {u : gg_M}  {G : gg_T} {Q : gg_M → Prop} (hG : gg_Cl none cX4_learn 2 RX4 none 4 (gg_eV Q) G) (kt1 : gg_kd t1 = 8) (h : w_X4_learn t1 u  Q)   : G 0 [some (.ref 6), some (.ref t1)] [] u := by
  unfold w_X4_learn at h
  refine gg_aload_n hG dX4_learn_0 rfl rfl ?_
  refine gg_xv (As := []) (st := []) hG dX4_learn_1 ml_RX4_19 Y_X4_reset YV_X4_reset (by decide) ⟨_, rfl, rfl⟩ (mt_X4_reset h) rfl (by decide) (Nat.le_of_ble_eq_true rfl) rfl (gg_kv (fun u1 h => ?_))
  refine gg_aload_n hG dX4_learn_4 rfl rfl ?_
  refine gg_aload_n hG dX4_learn_5 rfl rfl ?_
  refine gg_aload_n hG dX4_learn_6 rfl rfl ?_
  refine gg_xv (As := [.ref t1]) (st := [.ref 6]) hG dX4_learn_7 ml_RX4_22 Y_X4_faultOf YV_X4_faultOf (by decide) ⟨_, rfl, rfl⟩ (mt_X4_faultOf kt1 h) rfl (by decide) (Nat.le_of_ble_eq_true rfl) rfl (gg_ki (fun v3 u2 h => ?_))
  refine gg_putI hG dX4_learn_10 (by decide) rfl fp_RX4_15 rfl rfl rfl ?_
  refine gg_nu (fun u4 eu4 => ?_)
  replace h := h u4 eu4
  refine gg_aload_n hG dX4_learn_13 rfl rfl ?_
  refine gg_get (v := .int (u4.1 6 1)) hG dX4_learn_14 (by decide) rfl fl_RX4_15 rfl ?_
  refine gg_iconst (v := (-1)) hG dX4_learn_17 (by decide) ?_
  refine gg_ic_eq (tgt := 25) hG dX4_learn_18 (by decide) (fun c5 => ?_) (fun c5 => ?_)
  · replace h := h.1 c5
    refine gg_mk hG [false, false] rfl ?_
    exact m_X4_learn_c25 hG h
  · replace h := h.2 c5
    refine gg_aload_n hG dX4_learn_21 rfl rfl ?_
    refine gg_xv (As := []) (st := []) hG dX4_learn_22 ml_RX4_19 Y_X4_reset YV_X4_reset (by decide) ⟨_, rfl, rfl⟩ (mt_X4_reset h) rfl (by decide) (Nat.le_of_ble_eq_true rfl) rfl (gg_kv (fun u6 h => ?_))
    refine gg_mk hG [false, false] rfl ?_
    exact m_X4_learn_c25 hG h
theorem mt_X4_learn {t1 : Nat} (kt1 : gg_kd t1 = 8) {u : gg_M} {Q : gg_M → Prop} (h : w_X4_learn t1 u Q) : gg_Mt 4 yX4_learn cX4_learn 2 none [.ref 6, .ref t1] u (gg_eV Q) :=
  gg_intro (own := RX4) (by decide +kernel) rfl rfl (Nat.le_of_ble_eq_true rfl) (fun G hG => m_X4_learn hG kt1 h)
/-! X5_add -/
def w_X5_add_c49  (u : gg_M)  (Q : gg_M → Prop) : Prop :=
  Q u
set_option maxRecDepth 10000 in
theorem m_X5_add_c49  {u : gg_M}  {G : gg_T} {Q : gg_M → Prop} (hG : gg_Cl none cX5_add 4 RX5 none 1 (gg_eV Q) G)  (h : w_X5_add_c49  u  Q)   : G 49 [none, none, none, none] [] u := by
  unfold w_X5_add_c49 at h
  exact gg_vret hG dX5_add_49 rfl ⟨rfl, h⟩
def b_X5_add_c2 (a1 : Int32) (a2 : Int32) (a3 : Int32) (u : gg_M)  (k2 : Int32 × gg_M → Prop) (Q : gg_M → Prop) : Prop :=
  (a2 ≤ a3 →
   w_X5_add_c49 u Q) ∧
  (¬ a2 ≤ a3 →
   ((u.1 8 1) < 0 →
    w_X5_add_c49 u Q) ∧
   (¬ (u.1 8 1) < 0 →
    (90 ≤ (u.1 8 1) →
     w_X5_add_c49 u Q) ∧
    (¬ 90 ≤ (u.1 8 1) →
     vp_in (u.1 8 1) 90 ∧
     ∀ u5 : gg_M, u5 = gg_wI u 9 ((u.1 8 1).toNatClampNeg) a1 →
     ∀ u6 : gg_M, u6 = gg_wI u5 8 1 ((u5.1 8 1) + 1) →
     k2 ((a3 + 1), u6))))
set_option maxRecDepth 10000 in
theorem mb_X5_add_c2 {a1 : Int32} {a2 : Int32} {a3 : Int32} {u : gg_M}  {k2 : Int32 × gg_M → Prop} {G : gg_T} {Q : gg_M → Prop} (hG : gg_Cl none cX5_add 4 RX5 none 1 (gg_eV Q) G)  (h : b_X5_add_c2 a1 a2 a3 u k2 Q)   (hk2 : ∀ s : Int32 × gg_M, k2 s → G 2 [some (.ref 8), some (.int a1), some (.int a2), some (.int s.1)] [] s.2) : G 2 [some (.ref 8), some (.int a1), some (.int a2), some (.int a3)] [] u := by
  unfold b_X5_add_c2 at h
  refine gg_iload_n hG dX5_add_2 rfl rfl ?_
  refine gg_iload_n hG dX5_add_3 rfl rfl ?_
  refine gg_ic_ge (tgt := 49) hG dX5_add_4 (by decide) (fun c1 => ?_) (fun c1 => ?_)
  · replace h := h.1 c1
    refine gg_mk hG [false, false, false, false] rfl ?_
    exact m_X5_add_c49 hG h
  · replace h := h.2 c1
    refine gg_aload_n hG dX5_add_7 rfl rfl ?_
    refine gg_get (v := .int (u.1 8 1)) hG dX5_add_8 (by decide) rfl fl_RX5_19 rfl ?_
    refine gg_if_lt (tgt := 49) hG dX5_add_11 (by decide) (fun c2 => ?_) (fun c2 => ?_)
    · replace h := h.1 c2
      refine gg_mk hG [false, false, false, false] rfl ?_
      exact m_X5_add_c49 hG h
    · replace h := h.2 c2
      refine gg_aload_n hG dX5_add_14 rfl rfl ?_
      refine gg_get (v := .int (u.1 8 1)) hG dX5_add_15 (by decide) rfl fl_RX5_19 rfl ?_
      refine gg_bipush (v := 90) hG dX5_add_18 (by decide) ?_
      refine gg_ic_ge (tgt := 49) hG dX5_add_20 (by decide) (fun c3 => ?_) (fun c3 => ?_)
      · replace h := h.1 c3
        refine gg_mk hG [false, false, false, false] rfl ?_
        exact m_X5_add_c49 hG h
      · replace h := h.2 c3
        refine gg_aload_n hG dX5_add_23 rfl rfl ?_
        refine gg_get (v := .ref 9) hG dX5_add_24 (by decide) rfl fl_RX5_11 rfl ?_
        refine gg_aload_n hG dX5_add_27 rfl rfl ?_
        refine gg_get (v := .int (u.1 8 1)) hG dX5_add_28 (by decide) rfl fl_RX5_19 rfl ?_
        refine gg_iload_n hG dX5_add_31 rfl rfl ?_
        obtain ⟨h4, h⟩ := h
        refine gg_iast (j := (u.1 8 1).toNatClampNeg) hG dX5_add_32 (by decide) rfl h4 rfl ?_
        refine gg_nu (fun u5 eu5 => ?_)
        replace h := h u5 eu5
        refine gg_aload_n hG dX5_add_33 rfl rfl ?_
        refine gg_dup hG dX5_add_34 rfl ?_
        refine gg_get (v := .int (u5.1 8 1)) hG dX5_add_35 (by decide) rfl fl_RX5_19 rfl ?_
        refine gg_iconst (v := 1) hG dX5_add_38 (by decide) ?_
        refine gg_iadd hG dX5_add_39 ?_
        refine gg_putI hG dX5_add_40 (by decide) rfl fp_RX5_19 rfl rfl rfl ?_
        refine gg_nu (fun u6 eu6 => ?_)
        replace h := h u6 eu6
        refine gg_iinc (v := (a3 + 1)) (L1 := [some (.ref 8), some (.int a1), some (.int a2), some (.int (a3 + 1))]) hG dX5_add_43 rfl rfl (by decide) rfl ?_
        refine gg_goto (tgt := 2) hG dX5_add_46 (by decide) ?_
        exact hk2 _ h
def w_X5_add_c2 (a1 : Int32) (a2 : Int32) (a3 : Int32) (u : gg_M)  (Q : gg_M → Prop) : Prop :=
  gg_loop (fun (s : Int32 × gg_M) k2 => b_X5_add_c2 a1 a2 s.1 s.2  k2 Q) (a3, u)
set_option maxRecDepth 10000 in
theorem m_X5_add_c2 {a1 : Int32} {a2 : Int32} {a3 : Int32} {u : gg_M}  {G : gg_T} {Q : gg_M → Prop} (hG : gg_Cl none cX5_add 4 RX5 none 1 (gg_eV Q) G)  (h : w_X5_add_c2 a1 a2 a3 u  Q)   : G 2 [some (.ref 8), some (.int a1), some (.int a2), some (.int a3)] [] u :=
  gg_loop_use (P := fun s : Int32 × gg_M => G 2 [some (.ref 8), some (.int a1), some (.int a2), some (.int s.1)] [] s.2) h (fun s rc hb hr => mb_X5_add_c2 hG  hb   hr)
def w_X5_add (a1 : Int32) (a2 : Int32) (u : gg_M)  (Q : gg_M → Prop) : Prop :=
  w_X5_add_c2 a1 a2 0 u Q
set_option maxRecDepth 10000 in
theorem m_X5_add {a1 : Int32} {a2 : Int32} {u : gg_M}  {G : gg_T} {Q : gg_M → Prop} (hG : gg_Cl none cX5_add 4 RX5 none 1 (gg_eV Q) G)  (h : w_X5_add a1 a2 u  Q)   : G 0 [some (.ref 8), some (.int a1), some (.int a2), none] [] u := by
  unfold w_X5_add at h
  refine gg_iconst (v := 0) hG dX5_add_0 (by decide) ?_
  refine gg_istore_n (L1 := [some (.ref 8), some (.int a1), some (.int a2), some (.int 0)]) hG dX5_add_1 rfl (by decide) rfl ?_
  exact m_X5_add_c2 hG h
theorem mt_X5_add {a1 : Int32} {a2 : Int32}  {u : gg_M} {Q : gg_M → Prop} (h : w_X5_add a1 a2 u Q) : gg_Mt 1 yX5_add cX5_add 4 none [.ref 8, .int a1, .int a2] u (gg_eV Q) :=
  gg_intro (own := RX5) (by decide +kernel) rfl rfl (Nat.le_of_ble_eq_true rfl) (fun G hG => m_X5_add hG  h)
/-! X5_faultOf -/
def w_X5_faultOf_c109  (u : gg_M)  (Q : Int32 → gg_M → Prop) : Prop :=
  Q (-1) u
set_option maxRecDepth 10000 in
theorem m_X5_faultOf_c109  {u : gg_M}  {G : gg_T} {Q : Int32 → gg_M → Prop} (hG : gg_Cl none cX5_faultOf 6 RX5 (some .int) 3 (gg_eI Q) G)  (h : w_X5_faultOf_c109  u  Q)   : G 109 [none, none, none, none, none, none] [] u := by
  unfold w_X5_faultOf_c109 at h
  refine gg_iconst (v := (-1)) hG dX5_faultOf_109 (by decide) ?_
  exact gg_iret hG dX5_faultOf_110 rfl rfl ⟨_, rfl, h⟩
def w_X5_faultOf_c70 (t1 : Nat) (a2 : Int32) (a3 : Int32) (a4 : Int32) (a5 : Int32) (u : gg_M) (k4 : Int32 × Int32 × gg_M → Prop) (Q : Int32 → gg_M → Prop) : Prop :=
  w_X5_add a4 a5 u (fun u1 =>
  (a2 < (u1.1 t1 1) →
   w_X8_byteAt t1 a2 u1 (fun v4 u3 =>
   (v4 = 44 →
    k4 ((a2 + 1), (a3 + 1), u3)) ∧
   (¬ v4 = 44 →
    Q a2 u3))) ∧
  (¬ a2 < (u1.1 t1 1) →
   Q (-1) u1))
set_option maxRecDepth 10000 in
theorem m_X5_faultOf_c70 {t1 : Nat} {a2 : Int32} {a3 : Int32} {a4 : Int32} {a5 : Int32} {u : gg_M} {k4 : Int32 × Int32 × gg_M → Prop} {G : gg_T} {Q : Int32 → gg_M → Prop} (hG : gg_Cl none cX5_faultOf 6 RX5 (some .int) 3 (gg_eI Q) G) (kt1 : gg_kd t1 = 8) (h : w_X5_faultOf_c70 t1 a2 a3 a4 a5 u k4 Q)  (hk4 : ∀ s : Int32 × Int32 × gg_M, k4 s → G 4 [some (.ref 8), some (.ref t1), some (.int s.1), some (.int s.2.1), none, none] [] s.2.2) : G 70 [some (.ref 8), some (.ref t1), some (.int a2), some (.int a3), some (.int a4), some (.int a5)] [] u := by
  unfold w_X5_faultOf_c70 at h
  refine gg_aload_n hG dX5_faultOf_70 rfl rfl ?_
  refine gg_iload hG dX5_faultOf_71 rfl ?_
  refine gg_iload hG dX5_faultOf_73 rfl ?_
  refine gg_xv (As := [.int a4, .int a5]) (st := []) hG dX5_faultOf_75 ml_RX5_36 Y_X5_add YV_X5_add (by decide) ⟨_, rfl, rfl⟩ (mt_X5_add h) rfl (by decide) (Nat.le_of_ble_eq_true rfl) rfl (gg_kv (fun u1 h => ?_))
  refine gg_iload_n hG dX5_faultOf_78 rfl rfl ?_
  refine gg_aload_n hG dX5_faultOf_79 rfl rfl ?_
  refine gg_get (v := .int (u1.1 t1 1)) hG dX5_faultOf_80 (gg_kd_lt kt1 (by decide)) kt1 fl_RX5_26 (gg_fvI kt1 rfl) ?_
  refine gg_ic_lt (tgt := 88) hG dX5_faultOf_83 (by decide) (fun c2 => ?_) (fun c2 => ?_)
  · replace h := h.1 c2
    refine gg_aload_n hG dX5_faultOf_88 rfl rfl ?_
    refine gg_iload_n hG dX5_faultOf_89 rfl rfl ?_
    refine gg_xv (As := [.int a2]) (st := []) hG dX5_faultOf_90 ml_RX5_33 Y_X8_byteAt YV_X8_byteAt (gg_kd_lt kt1 (by decide)) (gg_rcv kt1 rfl) (mt_X8_byteAt kt1 h) rfl (by decide) (Nat.le_of_ble_eq_true rfl) rfl (gg_ki (fun v4 u3 h => ?_))
    refine gg_bipush (v := 44) hG dX5_faultOf_93 (by decide) ?_
    refine gg_ic_eq (tgt := 100) hG dX5_faultOf_95 (by decide) (fun c5 => ?_) (fun c5 => ?_)
    · replace h := h.1 c5
      refine gg_iinc (v := (a2 + 1)) (L1 := [some (.ref 8), some (.ref t1), some (.int (a2 + 1)), some (.int a3), some (.int a4), some (.int a5)]) hG dX5_faultOf_100 rfl rfl (by decide) rfl ?_
      refine gg_iinc (v := (a3 + 1)) (L1 := [some (.ref 8), some (.ref t1), some (.int (a2 + 1)), some (.int (a3 + 1)), some (.int a4), some (.int a5)]) hG dX5_faultOf_103 rfl rfl (by decide) rfl ?_
      refine gg_goto (tgt := 4) hG dX5_faultOf_106 (by decide) ?_
      refine gg_mk hG [true, true, true, true, false, false] rfl ?_
      exact hk4 _ h
    · replace h := h.2 c5
      refine gg_iload_n hG dX5_faultOf_98 rfl rfl ?_
      exact gg_iret hG dX5_faultOf_99 rfl rfl ⟨_, rfl, h⟩
  · replace h := h.2 c2
    refine gg_iconst (v := (-1)) hG dX5_faultOf_86 (by decide) ?_
    exact gg_iret hG dX5_faultOf_87 rfl rfl ⟨_, rfl, h⟩
def b_X5_faultOf_c4 (t1 : Nat) (a2 : Int32) (a3 : Int32) (u : gg_M)  (k4 : Int32 × Int32 × gg_M → Prop) (Q : Int32 → gg_M → Prop) : Prop :=
  (40 ≤ a3 →
   w_X5_faultOf_c109 u Q) ∧
  (¬ 40 ≤ a3 →
   ((u.1 t1 1) ≤ 0 →
    w_X5_faultOf_c109 u Q) ∧
   (¬ (u.1 t1 1) ≤ 0 →
    w_X8_figureAt t1 a2 u (fun v9 u8 =>
    (¬ v9 = (-1) →
     w_X8_byteAt t1 (a2 + 1) u8 (fun v12 u11 =>
     (¬ v12 = 42 →
      w_X5_faultOf_c70 t1 (a2 + 1) a3 v9 1 u11 k4 Q) ∧
     (v12 = 42 →
      w_X8_figureAt t1 ((a2 + 1) + 1) u11 (fun v15 u14 =>
      (2 ≤ v15 →
       w_X5_faultOf_c70 t1 ((a2 + 1) + 2) a3 v9 v15 u14 k4 Q) ∧
      (¬ 2 ≤ v15 →
       Q ((a2 + 1) + 1) u14))))) ∧
    (v9 = (-1) →
     Q a2 u8))))
set_option maxRecDepth 10000 in
theorem mb_X5_faultOf_c4 {t1 : Nat} {a2 : Int32} {a3 : Int32} {u : gg_M}  {k4 : Int32 × Int32 × gg_M → Prop} {G : gg_T} {Q : Int32 → gg_M → Prop} (hG : gg_Cl none cX5_faultOf 6 RX5 (some .int) 3 (gg_eI Q) G) (kt1 : gg_kd t1 = 8) (h : b_X5_faultOf_c4 t1 a2 a3 u k4 Q)   (hk4 : ∀ s : Int32 × Int32 × gg_M, k4 s → G 4 [some (.ref 8), some (.ref t1), some (.int s.1), some (.int s.2.1), none, none] [] s.2.2) : G 4 [some (.ref 8), some (.ref t1), some (.int a2), some (.int a3), none, none] [] u := by
  unfold b_X5_faultOf_c4 at h
  refine gg_iload_n hG dX5_faultOf_4 rfl rfl ?_
  refine gg_bipush (v := 40) hG dX5_faultOf_5 (by decide) ?_
  refine gg_ic_ge (tgt := 109) hG dX5_faultOf_7 (by decide) (fun c6 => ?_) (fun c6 => ?_)
  · replace h := h.1 c6
    refine gg_mk hG [false, false, false, false, false, false] rfl ?_
    exact m_X5_faultOf_c109 hG h
  · replace h := h.2 c6
    refine gg_aload_n hG dX5_faultOf_10 rfl rfl ?_
    refine gg_get (v := .int (u.1 t1 1)) hG dX5_faultOf_11 (gg_kd_lt kt1 (by decide)) kt1 fl_RX5_26 (gg_fvI kt1 rfl) ?_
    refine gg_if_le (tgt := 109) hG dX5_faultOf_14 (by decide) (fun c7 => ?_) (fun c7 => ?_)
    · replace h := h.1 c7
      refine gg_mk hG [false, false, false, false, false, false] rfl ?_
      exact m_X5_faultOf_c109 hG h
    · replace h := h.2 c7
      refine gg_aload_n hG dX5_faultOf_17 rfl rfl ?_
      refine gg_iload_n hG dX5_faultOf_18 rfl rfl ?_
      refine gg_xv (As := [.int a2]) (st := []) hG dX5_faultOf_19 ml_RX5_29 Y_X8_figureAt YV_X8_figureAt (gg_kd_lt kt1 (by decide)) (gg_rcv kt1 rfl) (mt_X8_figureAt kt1 h) rfl (by decide) (Nat.le_of_ble_eq_true rfl) rfl (gg_ki (fun v9 u8 h => ?_))
      refine gg_istore (L1 := [some (.ref 8), some (.ref t1), some (.int a2), some (.int a3), some (.int v9), none]) hG dX5_faultOf_22 (by decide) rfl ?_
      refine gg_iload hG dX5_faultOf_24 rfl ?_
      refine gg_iconst (v := (-1)) hG dX5_faultOf_26 (by decide) ?_
      refine gg_ic_ne (tgt := 32) hG dX5_faultOf_27 (by decide) (fun c10 => ?_) (fun c10 => ?_)
      · replace h := h.1 c10
        refine gg_iinc (v := (a2 + 1)) (L1 := [some (.ref 8), some (.ref t1), some (.int (a2 + 1)), some (.int a3), some (.int v9), none]) hG dX5_faultOf_32 rfl rfl (by decide) rfl ?_
        refine gg_iconst (v := 1) hG dX5_faultOf_35 (by decide) ?_
        refine gg_istore (L1 := [some (.ref 8), some (.ref t1), some (.int (a2 + 1)), some (.int a3), some (.int v9), some (.int 1)]) hG dX5_faultOf_36 (by decide) rfl ?_
        refine gg_aload_n hG dX5_faultOf_38 rfl rfl ?_
        refine gg_iload_n hG dX5_faultOf_39 rfl rfl ?_
        refine gg_xv (As := [.int (a2 + 1)]) (st := []) hG dX5_faultOf_40 ml_RX5_33 Y_X8_byteAt YV_X8_byteAt (gg_kd_lt kt1 (by decide)) (gg_rcv kt1 rfl) (mt_X8_byteAt kt1 h) rfl (by decide) (Nat.le_of_ble_eq_true rfl) rfl (gg_ki (fun v12 u11 h => ?_))
        refine gg_bipush (v := 42) hG dX5_faultOf_43 (by decide) ?_
        refine gg_ic_ne (tgt := 70) hG dX5_faultOf_45 (by decide) (fun c13 => ?_) (fun c13 => ?_)
        · replace h := h.1 c13
          exact m_X5_faultOf_c70 hG kt1 h hk4
        · replace h := h.2 c13
          refine gg_aload_n hG dX5_faultOf_48 rfl rfl ?_
          refine gg_iload_n hG dX5_faultOf_49 rfl rfl ?_
          refine gg_iconst (v := 1) hG dX5_faultOf_50 (by decide) ?_
          refine gg_iadd hG dX5_faultOf_51 ?_
          refine gg_xv (As := [.int ((a2 + 1) + 1)]) (st := []) hG dX5_faultOf_52 ml_RX5_29 Y_X8_figureAt YV_X8_figureAt (gg_kd_lt kt1 (by decide)) (gg_rcv kt1 rfl) (mt_X8_figureAt kt1 h) rfl (by decide) (Nat.le_of_ble_eq_true rfl) rfl (gg_ki (fun v15 u14 h => ?_))
          refine gg_istore (L1 := [some (.ref 8), some (.ref t1), some (.int (a2 + 1)), some (.int a3), some (.int v9), some (.int v15)]) hG dX5_faultOf_55 (by decide) rfl ?_
          refine gg_iload hG dX5_faultOf_57 rfl ?_
          refine gg_iconst (v := 2) hG dX5_faultOf_59 (by decide) ?_
          refine gg_ic_ge (tgt := 67) hG dX5_faultOf_60 (by decide) (fun c16 => ?_) (fun c16 => ?_)
          · replace h := h.1 c16
            refine gg_iinc (v := ((a2 + 1) + 2)) (L1 := [some (.ref 8), some (.ref t1), some (.int ((a2 + 1) + 2)), some (.int a3), some (.int v9), some (.int v15)]) hG dX5_faultOf_67 rfl rfl (by decide) rfl ?_
            exact m_X5_faultOf_c70 hG kt1 h hk4
          · replace h := h.2 c16
            refine gg_iload_n hG dX5_faultOf_63 rfl rfl ?_
            refine gg_iconst (v := 1) hG dX5_faultOf_64 (by decide) ?_
            refine gg_iadd hG dX5_faultOf_65 ?_
            exact gg_iret hG dX5_faultOf_66 rfl rfl ⟨_, rfl, h⟩
      · replace h := h.2 c10
        refine gg_iload_n hG dX5_faultOf_30 rfl rfl ?_
        exact gg_iret hG dX5_faultOf_31 rfl rfl ⟨_, rfl, h⟩
def w_X5_faultOf_c4 (t1 : Nat) (a2 : Int32) (a3 : Int32) (u : gg_M)  (Q : Int32 → gg_M → Prop) : Prop :=
  gg_loop (fun (s : Int32 × Int32 × gg_M) k4 => b_X5_faultOf_c4 t1 s.1 s.2.1 s.2.2  k4 Q) (a2, a3, u)
set_option maxRecDepth 10000 in
theorem m_X5_faultOf_c4 {t1 : Nat} {a2 : Int32} {a3 : Int32} {u : gg_M}  {G : gg_T} {Q : Int32 → gg_M → Prop} (hG : gg_Cl none cX5_faultOf 6 RX5 (some .int) 3 (gg_eI Q) G) (kt1 : gg_kd t1 = 8) (h : w_X5_faultOf_c4 t1 a2 a3 u  Q)   : G 4 [some (.ref 8), some (.ref t1), some (.int a2), some (.int a3), none, none] [] u :=
  gg_loop_use (P := fun s : Int32 × Int32 × gg_M => G 4 [some (.ref 8), some (.ref t1), some (.int s.1), some (.int s.2.1), none, none] [] s.2.2) h (fun s rc hb hr => mb_X5_faultOf_c4 hG kt1 hb   hr)
def w_X5_faultOf (t1 : Nat) (u : gg_M)  (Q : Int32 → gg_M → Prop) : Prop :=
  w_X5_faultOf_c4 t1 0 0 u Q
set_option maxRecDepth 10000 in
theorem m_X5_faultOf {t1 : Nat} {u : gg_M}  {G : gg_T} {Q : Int32 → gg_M → Prop} (hG : gg_Cl none cX5_faultOf 6 RX5 (some .int) 3 (gg_eI Q) G) (kt1 : gg_kd t1 = 8) (h : w_X5_faultOf t1 u  Q)   : G 0 [some (.ref 8), some (.ref t1), none, none, none, none] [] u := by
  unfold w_X5_faultOf at h
  refine gg_iconst (v := 0) hG dX5_faultOf_0 (by decide) ?_
  refine gg_istore_n (L1 := [some (.ref 8), some (.ref t1), some (.int 0), none, none, none]) hG dX5_faultOf_1 rfl (by decide) rfl ?_
  refine gg_iconst (v := 0) hG dX5_faultOf_2 (by decide) ?_
  refine gg_istore_n (L1 := [some (.ref 8), some (.ref t1), some (.int 0), some (.int 0), none, none]) hG dX5_faultOf_3 rfl (by decide) rfl ?_
  exact m_X5_faultOf_c4 hG kt1 h
theorem mt_X5_faultOf {t1 : Nat} (kt1 : gg_kd t1 = 8) {u : gg_M} {Q : Int32 → gg_M → Prop} (h : w_X5_faultOf t1 u Q) : gg_Mt 3 yX5_faultOf cX5_faultOf 6 (some .int) [.ref 8, .ref t1] u (gg_eI Q) :=
  gg_intro (own := RX5) (by decide +kernel) rfl rfl (Nat.le_of_ble_eq_true rfl) (fun G hG => m_X5_faultOf hG kt1 h)
/-! X5_learn -/
def w_X5_learn_c27  (u : gg_M)  (Q : gg_M → Prop) : Prop :=
  Q u
set_option maxRecDepth 10000 in
theorem m_X5_learn_c27  {u : gg_M}  {G : gg_T} {Q : gg_M → Prop} (hG : gg_Cl none cX5_learn 2 RX5 none 4 (gg_eV Q) G)  (h : w_X5_learn_c27  u  Q)   : G 27 [none, none] [] u := by
  unfold w_X5_learn_c27 at h
  exact gg_vret hG dX5_learn_27 rfl ⟨rfl, h⟩
def w_X5_learn (t1 : Nat) (u : gg_M)  (Q : gg_M → Prop) : Prop :=
  ∀ u1 : gg_M, u1 = gg_wI u 8 1 0 →
  w_X5_faultOf t1 u1 (fun v3 u2 =>
  ∀ u4 : gg_M, u4 = gg_wI u2 8 2 v3 →
  ((u4.1 8 2) = (-1) →
   w_X5_learn_c27 u4 Q) ∧
  (¬ (u4.1 8 2) = (-1) →
   ∀ u6 : gg_M, u6 = gg_wI u4 8 1 0 →
   w_X5_learn_c27 u6 Q))
set_option maxRecDepth 10000 in
theorem m_X5_learn {t1 : Nat} {u : gg_M}  {G : gg_T} {Q : gg_M → Prop} (hG : gg_Cl none cX5_learn 2 RX5 none 4 (gg_eV Q) G) (kt1 : gg_kd t1 = 8) (h : w_X5_learn t1 u  Q)   : G 0 [some (.ref 8), some (.ref t1)] [] u := by
  unfold w_X5_learn at h
  refine gg_aload_n hG dX5_learn_0 rfl rfl ?_
  refine gg_iconst (v := 0) hG dX5_learn_1 (by decide) ?_
  refine gg_putI hG dX5_learn_2 (by decide) rfl fp_RX5_19 rfl rfl rfl ?_
  refine gg_nu (fun u1 eu1 => ?_)
  replace h := h u1 eu1
  refine gg_aload_n hG dX5_learn_5 rfl rfl ?_
  refine gg_aload_n hG dX5_learn_6 rfl rfl ?_
  refine gg_aload_n hG dX5_learn_7 rfl rfl ?_
  refine gg_xv (As := [.ref t1]) (st := [.ref 8]) hG dX5_learn_8 ml_RX5_22 Y_X5_faultOf YV_X5_faultOf (by decide) ⟨_, rfl, rfl⟩ (mt_X5_faultOf kt1 h) rfl (by decide) (Nat.le_of_ble_eq_true rfl) rfl (gg_ki (fun v3 u2 h => ?_))
  refine gg_putI hG dX5_learn_11 (by decide) rfl fp_RX5_15 rfl rfl rfl ?_
  refine gg_nu (fun u4 eu4 => ?_)
  replace h := h u4 eu4
  refine gg_aload_n hG dX5_learn_14 rfl rfl ?_
  refine gg_get (v := .int (u4.1 8 2)) hG dX5_learn_15 (by decide) rfl fl_RX5_15 rfl ?_
  refine gg_iconst (v := (-1)) hG dX5_learn_18 (by decide) ?_
  refine gg_ic_eq (tgt := 27) hG dX5_learn_19 (by decide) (fun c5 => ?_) (fun c5 => ?_)
  · replace h := h.1 c5
    refine gg_mk hG [false, false] rfl ?_
    exact m_X5_learn_c27 hG h
  · replace h := h.2 c5
    refine gg_aload_n hG dX5_learn_22 rfl rfl ?_
    refine gg_iconst (v := 0) hG dX5_learn_23 (by decide) ?_
    refine gg_putI hG dX5_learn_24 (by decide) rfl fp_RX5_19 rfl rfl rfl ?_
    refine gg_nu (fun u6 eu6 => ?_)
    replace h := h u6 eu6
    refine gg_mk hG [false, false] rfl ?_
    exact m_X5_learn_c27 hG h
theorem mt_X5_learn {t1 : Nat} (kt1 : gg_kd t1 = 8) {u : gg_M} {Q : gg_M → Prop} (h : w_X5_learn t1 u Q) : gg_Mt 4 yX5_learn cX5_learn 2 none [.ref 8, .ref t1] u (gg_eV Q) :=
  gg_intro (own := RX5) (by decide +kernel) rfl rfl (Nat.le_of_ble_eq_true rfl) (fun G hG => m_X5_learn hG kt1 h)
/-! X5_actAt -/
def w_X5_actAt_c28 (z0 : Int32) (u : gg_M)  (Q : Int32 → gg_M → Prop) : Prop :=
  Q z0 u
set_option maxRecDepth 10000 in
theorem m_X5_actAt_c28 {z0 : Int32} {u : gg_M}  {G : gg_T} {Q : Int32 → gg_M → Prop} (hG : gg_Cl none cX5_actAt 2 RX5 (some .int) 1 (gg_eI Q) G)  (h : w_X5_actAt_c28 z0 u  Q)   : G 28 [none, none] [.int z0] u := by
  unfold w_X5_actAt_c28 at h
  exact gg_iret hG dX5_actAt_28 rfl rfl ⟨_, rfl, h⟩
def w_X5_actAt_c27  (u : gg_M)  (Q : Int32 → gg_M → Prop) : Prop :=
  w_X5_actAt_c28 (-1) u Q
set_option maxRecDepth 10000 in
theorem m_X5_actAt_c27  {u : gg_M}  {G : gg_T} {Q : Int32 → gg_M → Prop} (hG : gg_Cl none cX5_actAt 2 RX5 (some .int) 1 (gg_eI Q) G)  (h : w_X5_actAt_c27  u  Q)   : G 27 [none, none] [] u := by
  unfold w_X5_actAt_c27 at h
  refine gg_iconst (v := (-1)) hG dX5_actAt_27 (by decide) ?_
  exact m_X5_actAt_c28 hG h
def w_X5_actAt (a1 : Int32) (u : gg_M)  (Q : Int32 → gg_M → Prop) : Prop :=
  (a1 < 0 →
   w_X5_actAt_c27 u Q) ∧
  (¬ a1 < 0 →
   ((u.1 8 1) ≤ a1 →
    w_X5_actAt_c27 u Q) ∧
   (¬ (u.1 8 1) ≤ a1 →
    (90 ≤ a1 →
     w_X5_actAt_c27 u Q) ∧
    (¬ 90 ≤ a1 →
     vp_in a1 90 ∧
     w_X5_actAt_c28 (u.1 9 a1.toNatClampNeg) u Q)))
set_option maxRecDepth 10000 in
theorem m_X5_actAt {a1 : Int32} {u : gg_M}  {G : gg_T} {Q : Int32 → gg_M → Prop} (hG : gg_Cl none cX5_actAt 2 RX5 (some .int) 1 (gg_eI Q) G)  (h : w_X5_actAt a1 u  Q)   : G 0 [some (.ref 8), some (.int a1)] [] u := by
  unfold w_X5_actAt at h
  refine gg_iload_n hG dX5_actAt_0 rfl rfl ?_
  refine gg_if_lt (tgt := 27) hG dX5_actAt_1 (by decide) (fun c1 => ?_) (fun c1 => ?_)
  · replace h := h.1 c1
    refine gg_mk hG [false, false] rfl ?_
    exact m_X5_actAt_c27 hG h
  · replace h := h.2 c1
    refine gg_iload_n hG dX5_actAt_4 rfl rfl ?_
    refine gg_aload_n hG dX5_actAt_5 rfl rfl ?_
    refine gg_get (v := .int (u.1 8 1)) hG dX5_actAt_6 (by decide) rfl fl_RX5_19 rfl ?_
    refine gg_ic_ge (tgt := 27) hG dX5_actAt_9 (by decide) (fun c2 => ?_) (fun c2 => ?_)
    · replace h := h.1 c2
      refine gg_mk hG [false, false] rfl ?_
      exact m_X5_actAt_c27 hG h
    · replace h := h.2 c2
      refine gg_iload_n hG dX5_actAt_12 rfl rfl ?_
      refine gg_bipush (v := 90) hG dX5_actAt_13 (by decide) ?_
      refine gg_ic_ge (tgt := 27) hG dX5_actAt_15 (by decide) (fun c3 => ?_) (fun c3 => ?_)
      · replace h := h.1 c3
        refine gg_mk hG [false, false] rfl ?_
        exact m_X5_actAt_c27 hG h
      · replace h := h.2 c3
        refine gg_aload_n hG dX5_actAt_18 rfl rfl ?_
        refine gg_get (v := .ref 9) hG dX5_actAt_19 (by decide) rfl fl_RX5_11 rfl ?_
        refine gg_iload_n hG dX5_actAt_22 rfl rfl ?_
        obtain ⟨h4, h⟩ := h
        refine gg_iald (j := a1.toNatClampNeg) hG dX5_actAt_23 (by decide) rfl h4 rfl ?_
        refine gg_goto (tgt := 28) hG dX5_actAt_24 (by decide) ?_
        refine gg_mk hG [false, false] rfl ?_
        exact m_X5_actAt_c28 hG h
theorem mt_X5_actAt {a1 : Int32}  {u : gg_M} {Q : Int32 → gg_M → Prop} (h : w_X5_actAt a1 u Q) : gg_Mt 1 yX5_actAt cX5_actAt 2 (some .int) [.ref 8, .int a1] u (gg_eI Q) :=
  gg_intro (own := RX5) (by decide +kernel) rfl rfl (Nat.le_of_ble_eq_true rfl) (fun G hG => m_X5_actAt hG  h)
/-! X6_isLost -/
def w_X6_isLost_c13 (z0 : Int32) (u : gg_M)  (Q : Int32 → gg_M → Prop) : Prop :=
  (z0 = 0 ∨ z0 = 1) ∧
  Q z0 u
set_option maxRecDepth 10000 in
theorem m_X6_isLost_c13 {z0 : Int32} {u : gg_M}  {G : gg_T} {Q : Int32 → gg_M → Prop} (hG : gg_Cl none cX6_isLost 1 RX6 (some .boolean) 1 (gg_eI Q) G)  (h : w_X6_isLost_c13 z0 u  Q)   : G 13 [none] [.int z0] u := by
  unfold w_X6_isLost_c13 at h
  obtain ⟨h1, h⟩ := h
  exact gg_iret hG dX6_isLost_13 rfl (gg_nb h1).1 ⟨_, rfl, h⟩
def w_X6_isLost (t0 : Nat) (u : gg_M)  (Q : Int32 → gg_M → Prop) : Prop :=
  (¬ (u.1 t0 1) = (-1) →
   w_X6_isLost_c13 0 u Q) ∧
  ((u.1 t0 1) = (-1) →
   w_X6_isLost_c13 1 u Q)
set_option maxRecDepth 10000 in
theorem m_X6_isLost {t0 : Nat} {u : gg_M}  {G : gg_T} {Q : Int32 → gg_M → Prop} (hG : gg_Cl none cX6_isLost 1 RX6 (some .boolean) 1 (gg_eI Q) G) (kt0 : gg_kd t0 = 6) (h : w_X6_isLost t0 u  Q)   : G 0 [some (.ref t0)] [] u := by
  unfold w_X6_isLost at h
  refine gg_aload_n hG dX6_isLost_0 rfl rfl ?_
  refine gg_get (v := .int (u.1 t0 1)) hG dX6_isLost_1 (gg_kd_lt kt0 (by decide)) kt0 fl_RX6_15 (gg_fvI kt0 rfl) ?_
  refine gg_iconst (v := (-1)) hG dX6_isLost_4 (by decide) ?_
  refine gg_ic_ne (tgt := 12) hG dX6_isLost_5 (by decide) (fun c2 => ?_) (fun c2 => ?_)
  · replace h := h.1 c2
    refine gg_iconst (v := 0) hG dX6_isLost_12 (by decide) ?_
    refine gg_mk hG [false] rfl ?_
    exact m_X6_isLost_c13 hG h
  · replace h := h.2 c2
    refine gg_iconst (v := 1) hG dX6_isLost_8 (by decide) ?_
    refine gg_goto (tgt := 13) hG dX6_isLost_9 (by decide) ?_
    refine gg_mk hG [false] rfl ?_
    exact m_X6_isLost_c13 hG h
theorem mt_X6_isLost {t0 : Nat} (kt0 : gg_kd t0 = 6) {u : gg_M} {Q : Int32 → gg_M → Prop} (h : w_X6_isLost t0 u Q) : gg_Mt 1 yX6_isLost cX6_isLost 1 (some .boolean) [.ref t0] u (gg_eI Q) :=
  gg_intro (own := RX6) (by decide +kernel) rfl rfl (Nat.le_of_ble_eq_true rfl) (fun G hG => m_X6_isLost hG kt0 h)
/-! X6_lay -/
def w_X6_lay (t0 : Nat) (a1 : Int32) (a2 : Int32) (u : gg_M)  (Q : gg_M → Prop) : Prop :=
  w_J7_fill_53178 (gg_rf t0 0) 0 u (fun u1 =>
  ∀ u2 : gg_M, u2 = gg_wI u1 t0 1 a1 →
  ∀ u3 : gg_M, u3 = gg_wI u2 t0 2 a2 →
  Q u3)
set_option maxRecDepth 10000 in
theorem m_X6_lay {t0 : Nat} {a1 : Int32} {a2 : Int32} {u : gg_M}  {G : gg_T} {Q : gg_M → Prop} (hG : gg_Cl none cX6_lay 3 RX6 none 2 (gg_eV Q) G) (kt0 : gg_kd t0 = 6) (h : w_X6_lay t0 a1 a2 u  Q)   : G 0 [some (.ref t0), some (.int a1), some (.int a2)] [] u := by
  unfold w_X6_lay at h
  refine gg_aload_n hG dX6_lay_0 rfl rfl ?_
  refine gg_get (v := .ref (gg_rf t0 0)) hG dX6_lay_1 (gg_kd_lt kt0 (by decide)) kt0 fl_RX6_9 (gg_fvR kt0 rfl) ?_
  refine gg_iconst (v := 0) hG dX6_lay_4 (by decide) ?_
  refine gg_xs (As := [.ref (gg_rf t0 0), .int 0]) (st := []) hG dX6_lay_5 ml_RX6_19 Y_J7_fill_53178 YS_J7_fill_53178 (mt_J7_fill_53178 (gg_rf6 kt0) h) rfl (by decide) (Nat.le_of_ble_eq_true rfl) rfl (gg_kv (fun u1 h => ?_))
  refine gg_aload_n hG dX6_lay_8 rfl rfl ?_
  refine gg_iload_n hG dX6_lay_9 rfl rfl ?_
  refine gg_putI hG dX6_lay_10 (gg_kd_lt kt0 (by decide)) kt0 fp_RX6_15 rfl rfl rfl ?_
  refine gg_nu (fun u2 eu2 => ?_)
  replace h := h u2 eu2
  refine gg_aload_n hG dX6_lay_13 rfl rfl ?_
  refine gg_iload_n hG dX6_lay_14 rfl rfl ?_
  refine gg_putI hG dX6_lay_15 (gg_kd_lt kt0 (by decide)) kt0 fp_RX6_25 rfl rfl rfl ?_
  refine gg_nu (fun u3 eu3 => ?_)
  replace h := h u3 eu3
  exact gg_vret hG dX6_lay_18 rfl ⟨rfl, h⟩
theorem mt_X6_lay {t0 : Nat} {a1 : Int32} {a2 : Int32} (kt0 : gg_kd t0 = 6) {u : gg_M} {Q : gg_M → Prop} (h : w_X6_lay t0 a1 a2 u Q) : gg_Mt 2 yX6_lay cX6_lay 3 none [.ref t0, .int a1, .int a2] u (gg_eV Q) :=
  gg_intro (own := RX6) (by decide +kernel) rfl rfl (Nat.le_of_ble_eq_true rfl) (fun G hG => m_X6_lay hG kt0 h)
/-! X6_wrongWith -/
def w_X6_wrongWith_c35 (z0 : Int32) (u : gg_M)  (Q : Int32 → gg_M → Prop) : Prop :=
  Q z0 u
set_option maxRecDepth 10000 in
theorem m_X6_wrongWith_c35 {z0 : Int32} {u : gg_M}  {G : gg_T} {Q : Int32 → gg_M → Prop} (hG : gg_Cl none cX6_wrongWith 3 RX6 (some .int) 2 (gg_eI Q) G)  (h : w_X6_wrongWith_c35 z0 u  Q)   : G 35 [none, none, none] [.int z0] u := by
  unfold w_X6_wrongWith_c35 at h
  exact gg_iret hG dX6_wrongWith_35 rfl rfl ⟨_, rfl, h⟩
def w_X6_wrongWith (t0 : Nat) (a1 : Int32) (a2 : Int32) (u : gg_M)  (Q : Int32 → gg_M → Prop) : Prop :=
  w_X6_isLost t0 u (fun v2 u1 =>
  (v2 = 0 →
   ((u1.1 t0 1) = a1 →
    w_X10_isBelow a2 (u1.1 t0 2) u1 (fun v6 u5 =>
    (v6 = 0 →
     w_X6_wrongWith_c35 2 u5 Q) ∧
    (¬ v6 = 0 →
     w_X6_wrongWith_c35 0 u5 Q))) ∧
   (¬ (u1.1 t0 1) = a1 →
    Q 3 u1)) ∧
  (¬ v2 = 0 →
   Q 1 u1))
set_option maxRecDepth 10000 in
theorem m_X6_wrongWith {t0 : Nat} {a1 : Int32} {a2 : Int32} {u : gg_M}  {G : gg_T} {Q : Int32 → gg_M → Prop} (hG : gg_Cl none cX6_wrongWith 3 RX6 (some .int) 2 (gg_eI Q) G) (kt0 : gg_kd t0 = 6) (h : w_X6_wrongWith t0 a1 a2 u  Q)   : G 0 [some (.ref t0), some (.int a1), some (.int a2)] [] u := by
  unfold w_X6_wrongWith at h
  refine gg_aload_n hG dX6_wrongWith_0 rfl rfl ?_
  refine gg_xv (As := []) (st := []) hG dX6_wrongWith_1 ml_RX6_28 Y_X6_isLost YV_X6_isLost (gg_kd_lt kt0 (by decide)) (gg_rcv kt0 rfl) (mt_X6_isLost kt0 h) rfl (by decide) (Nat.le_of_ble_eq_true rfl) rfl (gg_ki (fun v2 u1 h => ?_))
  refine gg_if_eq (tgt := 9) hG dX6_wrongWith_4 (by decide) (fun c3 => ?_) (fun c3 => ?_)
  · replace h := h.1 c3
    refine gg_aload_n hG dX6_wrongWith_9 rfl rfl ?_
    refine gg_get (v := .int (u1.1 t0 1)) hG dX6_wrongWith_10 (gg_kd_lt kt0 (by decide)) kt0 fl_RX6_15 (gg_fvI kt0 rfl) ?_
    refine gg_iload_n hG dX6_wrongWith_13 rfl rfl ?_
    refine gg_ic_eq (tgt := 19) hG dX6_wrongWith_14 (by decide) (fun c4 => ?_) (fun c4 => ?_)
    · replace h := h.1 c4
      refine gg_iload_n hG dX6_wrongWith_19 rfl rfl ?_
      refine gg_aload_n hG dX6_wrongWith_20 rfl rfl ?_
      refine gg_get (v := .int (u1.1 t0 2)) hG dX6_wrongWith_21 (gg_kd_lt kt0 (by decide)) kt0 fl_RX6_25 (gg_fvI kt0 rfl) ?_
      refine gg_xsN (As := [.int a2, .int (u1.1 t0 2)]) (st := []) hG dX6_wrongWith_24 ml_RX6_32 Y_X10_isBelow YS_X10_isBelow (mt_X10_isBelow h) rfl (by decide) (Nat.le_of_ble_eq_true rfl) rfl (gg_ki (fun v6 u5 h => ?_))
      refine gg_if_eq (tgt := 34) hG dX6_wrongWith_27 (by decide) (fun c7 => ?_) (fun c7 => ?_)
      · replace h := h.1 c7
        refine gg_iconst (v := 2) hG dX6_wrongWith_34 (by decide) ?_
        refine gg_mk hG [false, false, false] rfl ?_
        exact m_X6_wrongWith_c35 hG h
      · replace h := h.2 c7
        refine gg_iconst (v := 0) hG dX6_wrongWith_30 (by decide) ?_
        refine gg_goto (tgt := 35) hG dX6_wrongWith_31 (by decide) ?_
        refine gg_mk hG [false, false, false] rfl ?_
        exact m_X6_wrongWith_c35 hG h
    · replace h := h.2 c4
      refine gg_iconst (v := 3) hG dX6_wrongWith_17 (by decide) ?_
      exact gg_iret hG dX6_wrongWith_18 rfl rfl ⟨_, rfl, h⟩
  · replace h := h.2 c3
    refine gg_iconst (v := 1) hG dX6_wrongWith_7 (by decide) ?_
    exact gg_iret hG dX6_wrongWith_8 rfl rfl ⟨_, rfl, h⟩
theorem mt_X6_wrongWith {t0 : Nat} {a1 : Int32} {a2 : Int32} (kt0 : gg_kd t0 = 6) {u : gg_M} {Q : Int32 → gg_M → Prop} (h : w_X6_wrongWith t0 a1 a2 u Q) : gg_Mt 2 yX6_wrongWith cX6_wrongWith 3 (some .int) [.ref t0, .int a1, .int a2] u (gg_eI Q) :=
  gg_intro (own := RX6) (by decide +kernel) rfl rfl (Nat.le_of_ble_eq_true rfl) (fun G hG => m_X6_wrongWith hG kt0 h)
/-! X6_holds -/
def w_X6_holds_c31 (z0 : Int32) (u : gg_M)  (Q : Int32 → gg_M → Prop) : Prop :=
  (z0 = 0 ∨ z0 = 1) ∧
  Q z0 u
set_option maxRecDepth 10000 in
theorem m_X6_holds_c31 {z0 : Int32} {u : gg_M}  {G : gg_T} {Q : Int32 → gg_M → Prop} (hG : gg_Cl none cX6_holds 3 RX6 (some .boolean) 1 (gg_eI Q) G)  (h : w_X6_holds_c31 z0 u  Q)   : G 31 [none, none, none] [.int z0] u := by
  unfold w_X6_holds_c31 at h
  obtain ⟨h1, h⟩ := h
  exact gg_iret hG dX6_holds_31 rfl (gg_nb h1).1 ⟨_, rfl, h⟩
def w_X6_holds_c30  (u : gg_M)  (Q : Int32 → gg_M → Prop) : Prop :=
  w_X6_holds_c31 0 u Q
set_option maxRecDepth 10000 in
theorem m_X6_holds_c30  {u : gg_M}  {G : gg_T} {Q : Int32 → gg_M → Prop} (hG : gg_Cl none cX6_holds 3 RX6 (some .boolean) 1 (gg_eI Q) G)  (h : w_X6_holds_c30  u  Q)   : G 30 [none, none, none] [] u := by
  unfold w_X6_holds_c30 at h
  refine gg_iconst (v := 0) hG dX6_holds_30 (by decide) ?_
  exact m_X6_holds_c31 hG h
def w_X6_holds (t0 : Nat) (a1 : Int32) (a2 : Int32) (u : gg_M)  (Q : Int32 → gg_M → Prop) : Prop :=
  (a1 < 0 →
   w_X6_holds_c30 u Q) ∧
  (¬ a1 < 0 →
   ((u.1 t0 2) < a1 →
    w_X6_holds_c30 u Q) ∧
   (¬ (u.1 t0 2) < a1 →
    (a2 < 0 →
     w_X6_holds_c30 u Q) ∧
    (¬ a2 < 0 →
     (((u.1 t0 2) - a1) < a2 →
      w_X6_holds_c30 u Q) ∧
     (¬ ((u.1 t0 2) - a1) < a2 →
      w_X6_holds_c31 1 u Q))))
set_option maxRecDepth 10000 in
theorem m_X6_holds {t0 : Nat} {a1 : Int32} {a2 : Int32} {u : gg_M}  {G : gg_T} {Q : Int32 → gg_M → Prop} (hG : gg_Cl none cX6_holds 3 RX6 (some .boolean) 1 (gg_eI Q) G) (kt0 : gg_kd t0 = 6) (h : w_X6_holds t0 a1 a2 u  Q)   : G 0 [some (.ref t0), some (.int a1), some (.int a2)] [] u := by
  unfold w_X6_holds at h
  refine gg_iload_n hG dX6_holds_0 rfl rfl ?_
  refine gg_if_lt (tgt := 30) hG dX6_holds_1 (by decide) (fun c2 => ?_) (fun c2 => ?_)
  · replace h := h.1 c2
    refine gg_mk hG [false, false, false] rfl ?_
    exact m_X6_holds_c30 hG h
  · replace h := h.2 c2
    refine gg_iload_n hG dX6_holds_4 rfl rfl ?_
    refine gg_aload_n hG dX6_holds_5 rfl rfl ?_
    refine gg_get (v := .int (u.1 t0 2)) hG dX6_holds_6 (gg_kd_lt kt0 (by decide)) kt0 fl_RX6_25 (gg_fvI kt0 rfl) ?_
    refine gg_ic_gt (tgt := 30) hG dX6_holds_9 (by decide) (fun c3 => ?_) (fun c3 => ?_)
    · replace h := h.1 c3
      refine gg_mk hG [false, false, false] rfl ?_
      exact m_X6_holds_c30 hG h
    · replace h := h.2 c3
      refine gg_iload_n hG dX6_holds_12 rfl rfl ?_
      refine gg_if_lt (tgt := 30) hG dX6_holds_13 (by decide) (fun c4 => ?_) (fun c4 => ?_)
      · replace h := h.1 c4
        refine gg_mk hG [false, false, false] rfl ?_
        exact m_X6_holds_c30 hG h
      · replace h := h.2 c4
        refine gg_iload_n hG dX6_holds_16 rfl rfl ?_
        refine gg_aload_n hG dX6_holds_17 rfl rfl ?_
        refine gg_get (v := .int (u.1 t0 2)) hG dX6_holds_18 (gg_kd_lt kt0 (by decide)) kt0 fl_RX6_25 (gg_fvI kt0 rfl) ?_
        refine gg_iload_n hG dX6_holds_21 rfl rfl ?_
        refine gg_isub hG dX6_holds_22 ?_
        refine gg_ic_gt (tgt := 30) hG dX6_holds_23 (by decide) (fun c5 => ?_) (fun c5 => ?_)
        · replace h := h.1 c5
          refine gg_mk hG [false, false, false] rfl ?_
          exact m_X6_holds_c30 hG h
        · replace h := h.2 c5
          refine gg_iconst (v := 1) hG dX6_holds_26 (by decide) ?_
          refine gg_goto (tgt := 31) hG dX6_holds_27 (by decide) ?_
          refine gg_mk hG [false, false, false] rfl ?_
          exact m_X6_holds_c31 hG h
theorem mt_X6_holds {t0 : Nat} {a1 : Int32} {a2 : Int32} (kt0 : gg_kd t0 = 6) {u : gg_M} {Q : Int32 → gg_M → Prop} (h : w_X6_holds t0 a1 a2 u Q) : gg_Mt 1 yX6_holds cX6_holds 3 (some .boolean) [.ref t0, .int a1, .int a2] u (gg_eI Q) :=
  gg_intro (own := RX6) (by decide +kernel) rfl rfl (Nat.le_of_ble_eq_true rfl) (fun G hG => m_X6_holds hG kt0 h)
/-! X6_itemAt -/
def w_X6_itemAt_c27 (z0 : Int32) (u : gg_M)  (Q : Int32 → gg_M → Prop) : Prop :=
  Q z0 u
set_option maxRecDepth 10000 in
theorem m_X6_itemAt_c27 {z0 : Int32} {u : gg_M}  {G : gg_T} {Q : Int32 → gg_M → Prop} (hG : gg_Cl none cX6_itemAt 2 RX6 (some .int) 2 (gg_eI Q) G)  (h : w_X6_itemAt_c27 z0 u  Q)   : G 27 [none, none] [.int z0] u := by
  unfold w_X6_itemAt_c27 at h
  exact gg_iret hG dX6_itemAt_27 rfl rfl ⟨_, rfl, h⟩
def w_X6_itemAt_c26  (u : gg_M)  (Q : Int32 → gg_M → Prop) : Prop :=
  w_X6_itemAt_c27 0 u Q
set_option maxRecDepth 10000 in
theorem m_X6_itemAt_c26  {u : gg_M}  {G : gg_T} {Q : Int32 → gg_M → Prop} (hG : gg_Cl none cX6_itemAt 2 RX6 (some .int) 2 (gg_eI Q) G)  (h : w_X6_itemAt_c26  u  Q)   : G 26 [none, none] [] u := by
  unfold w_X6_itemAt_c26 at h
  refine gg_iconst (v := 0) hG dX6_itemAt_26 (by decide) ?_
  exact m_X6_itemAt_c27 hG h
def w_X6_itemAt (t0 : Nat) (a1 : Int32) (u : gg_M)  (Q : Int32 → gg_M → Prop) : Prop :=
  w_X10_isBelow a1 (u.1 t0 2) u (fun v2 u1 =>
  (v2 = 0 →
   w_X6_itemAt_c26 u1 Q) ∧
  (¬ v2 = 0 →
   (48 ≤ a1 →
    w_X6_itemAt_c26 u1 Q) ∧
   (¬ 48 ≤ a1 →
    vp_in a1 (gg_al (gg_rf t0 0)) ∧
    w_X6_itemAt_c27 (u1.1 (gg_rf t0 0) a1.toNatClampNeg) u1 Q)))
set_option maxRecDepth 10000 in
theorem m_X6_itemAt {t0 : Nat} {a1 : Int32} {u : gg_M}  {G : gg_T} {Q : Int32 → gg_M → Prop} (hG : gg_Cl none cX6_itemAt 2 RX6 (some .int) 2 (gg_eI Q) G) (kt0 : gg_kd t0 = 6) (h : w_X6_itemAt t0 a1 u  Q)   : G 0 [some (.ref t0), some (.int a1)] [] u := by
  unfold w_X6_itemAt at h
  refine gg_iload_n hG dX6_itemAt_0 rfl rfl ?_
  refine gg_aload_n hG dX6_itemAt_1 rfl rfl ?_
  refine gg_get (v := .int (u.1 t0 2)) hG dX6_itemAt_2 (gg_kd_lt kt0 (by decide)) kt0 fl_RX6_25 (gg_fvI kt0 rfl) ?_
  refine gg_xsN (As := [.int a1, .int (u.1 t0 2)]) (st := []) hG dX6_itemAt_5 ml_RX6_32 Y_X10_isBelow YS_X10_isBelow (mt_X10_isBelow h) rfl (by decide) (Nat.le_of_ble_eq_true rfl) rfl (gg_ki (fun v2 u1 h => ?_))
  refine gg_if_eq (tgt := 26) hG dX6_itemAt_8 (by decide) (fun c3 => ?_) (fun c3 => ?_)
  · replace h := h.1 c3
    refine gg_mk hG [false, false] rfl ?_
    exact m_X6_itemAt_c26 hG h
  · replace h := h.2 c3
    refine gg_iload_n hG dX6_itemAt_11 rfl rfl ?_
    refine gg_bipush (v := 48) hG dX6_itemAt_12 (by decide) ?_
    refine gg_ic_ge (tgt := 26) hG dX6_itemAt_14 (by decide) (fun c4 => ?_) (fun c4 => ?_)
    · replace h := h.1 c4
      refine gg_mk hG [false, false] rfl ?_
      exact m_X6_itemAt_c26 hG h
    · replace h := h.2 c4
      refine gg_aload_n hG dX6_itemAt_17 rfl rfl ?_
      refine gg_get (v := .ref (gg_rf t0 0)) hG dX6_itemAt_18 (gg_kd_lt kt0 (by decide)) kt0 fl_RX6_9 (gg_fvR kt0 rfl) ?_
      refine gg_iload_n hG dX6_itemAt_21 rfl rfl ?_
      obtain ⟨h5, h⟩ := h
      refine gg_iald (j := a1.toNatClampNeg) hG dX6_itemAt_22 (gg_kd_lt (gg_rf6 kt0) (by decide)) (gg_rf6 kt0) h5 rfl ?_
      refine gg_goto (tgt := 27) hG dX6_itemAt_23 (by decide) ?_
      refine gg_mk hG [false, false] rfl ?_
      exact m_X6_itemAt_c27 hG h
theorem mt_X6_itemAt {t0 : Nat} {a1 : Int32} (kt0 : gg_kd t0 = 6) {u : gg_M} {Q : Int32 → gg_M → Prop} (h : w_X6_itemAt t0 a1 u Q) : gg_Mt 2 yX6_itemAt cX6_itemAt 2 (some .int) [.ref t0, .int a1] u (gg_eI Q) :=
  gg_intro (own := RX6) (by decide +kernel) rfl rfl (Nat.le_of_ble_eq_true rfl) (fun G hG => m_X6_itemAt hG kt0 h)
/-! X6_keep -/
def w_X6_keep_c49  (u : gg_M)  (Q : gg_M → Prop) : Prop :=
  Q u
set_option maxRecDepth 10000 in
theorem m_X6_keep_c49  {u : gg_M}  {G : gg_T} {Q : gg_M → Prop} (hG : gg_Cl none cX6_keep 3 RX6 none 2 (gg_eV Q) G)  (h : w_X6_keep_c49  u  Q)   : G 49 [none, none, none] [] u := by
  unfold w_X6_keep_c49 at h
  exact gg_vret hG dX6_keep_49 rfl ⟨rfl, h⟩
def w_X6_keep_c48 (r0 : Nat) (z1 : Int32) (z2 : Int32) (u : gg_M)  (Q : gg_M → Prop) : Prop :=
  vp_in z1 (gg_al r0) ∧
  ∀ u2 : gg_M, u2 = gg_wI u r0 z1.toNatClampNeg z2 →
  w_X6_keep_c49 u2 Q
set_option maxRecDepth 10000 in
theorem m_X6_keep_c48 {r0 : Nat} {z1 : Int32} {z2 : Int32} {u : gg_M}  {G : gg_T} {Q : gg_M → Prop} (hG : gg_Cl none cX6_keep 3 RX6 none 2 (gg_eV Q) G) (kr0 : gg_kd r0 = 20) (h : w_X6_keep_c48 r0 z1 z2 u  Q)   : G 48 [none, none, none] [.int z2, .int z1, .ref r0] u := by
  unfold w_X6_keep_c48 at h
  obtain ⟨h1, h⟩ := h
  refine gg_iast (j := z1.toNatClampNeg) hG dX6_keep_48 (gg_kd_lt kr0 (by decide)) kr0 h1 rfl ?_
  refine gg_nu (fun u2 eu2 => ?_)
  replace h := h u2 eu2
  exact m_X6_keep_c49 hG h
def w_X6_keep (t0 : Nat) (a1 : Int32) (a2 : Int32) (u : gg_M)  (Q : gg_M → Prop) : Prop :=
  w_X10_isBelow a1 (u.1 t0 2) u (fun v4 u3 =>
  (v4 = 0 →
   w_X6_keep_c49 u3 Q) ∧
  (¬ v4 = 0 →
   (48 ≤ a1 →
    w_X6_keep_c49 u3 Q) ∧
   (¬ 48 ≤ a1 →
    (¬ (u3.1 t0 1) = 0 →
     (¬ (u3.1 t0 1) = 1 →
      w_X6_keep_c48 (gg_rf t0 0) a1 a2 u3 Q) ∧
     ((u3.1 t0 1) = 1 →
      w_X6_keep_c48 (gg_rf t0 0) a1 a2.toInt16.toInt32 u3 Q)) ∧
    ((u3.1 t0 1) = 0 →
     w_X6_keep_c48 (gg_rf t0 0) a1 a2.toInt8.toInt32 u3 Q))))
set_option maxRecDepth 10000 in
theorem m_X6_keep {t0 : Nat} {a1 : Int32} {a2 : Int32} {u : gg_M}  {G : gg_T} {Q : gg_M → Prop} (hG : gg_Cl none cX6_keep 3 RX6 none 2 (gg_eV Q) G) (kt0 : gg_kd t0 = 6) (h : w_X6_keep t0 a1 a2 u  Q)   : G 0 [some (.ref t0), some (.int a1), some (.int a2)] [] u := by
  unfold w_X6_keep at h
  refine gg_iload_n hG dX6_keep_0 rfl rfl ?_
  refine gg_aload_n hG dX6_keep_1 rfl rfl ?_
  refine gg_get (v := .int (u.1 t0 2)) hG dX6_keep_2 (gg_kd_lt kt0 (by decide)) kt0 fl_RX6_25 (gg_fvI kt0 rfl) ?_
  refine gg_xsN (As := [.int a1, .int (u.1 t0 2)]) (st := []) hG dX6_keep_5 ml_RX6_32 Y_X10_isBelow YS_X10_isBelow (mt_X10_isBelow h) rfl (by decide) (Nat.le_of_ble_eq_true rfl) rfl (gg_ki (fun v4 u3 h => ?_))
  refine gg_if_eq (tgt := 49) hG dX6_keep_8 (by decide) (fun c5 => ?_) (fun c5 => ?_)
  · replace h := h.1 c5
    refine gg_mk hG [false, false, false] rfl ?_
    exact m_X6_keep_c49 hG h
  · replace h := h.2 c5
    refine gg_iload_n hG dX6_keep_11 rfl rfl ?_
    refine gg_bipush (v := 48) hG dX6_keep_12 (by decide) ?_
    refine gg_ic_ge (tgt := 49) hG dX6_keep_14 (by decide) (fun c6 => ?_) (fun c6 => ?_)
    · replace h := h.1 c6
      refine gg_mk hG [false, false, false] rfl ?_
      exact m_X6_keep_c49 hG h
    · replace h := h.2 c6
      refine gg_aload_n hG dX6_keep_17 rfl rfl ?_
      refine gg_get (v := .ref (gg_rf t0 0)) hG dX6_keep_18 (gg_kd_lt kt0 (by decide)) kt0 fl_RX6_9 (gg_fvR kt0 rfl) ?_
      refine gg_iload_n hG dX6_keep_21 rfl rfl ?_
      refine gg_aload_n hG dX6_keep_22 rfl rfl ?_
      refine gg_get (v := .int (u3.1 t0 1)) hG dX6_keep_23 (gg_kd_lt kt0 (by decide)) kt0 fl_RX6_15 (gg_fvI kt0 rfl) ?_
      refine gg_if_ne (tgt := 34) hG dX6_keep_26 (by decide) (fun c7 => ?_) (fun c7 => ?_)
      · replace h := h.1 c7
        refine gg_aload_n hG dX6_keep_34 rfl rfl ?_
        refine gg_get (v := .int (u3.1 t0 1)) hG dX6_keep_35 (gg_kd_lt kt0 (by decide)) kt0 fl_RX6_15 (gg_fvI kt0 rfl) ?_
        refine gg_iconst (v := 1) hG dX6_keep_38 (by decide) ?_
        refine gg_ic_ne (tgt := 47) hG dX6_keep_39 (by decide) (fun c8 => ?_) (fun c8 => ?_)
        · replace h := h.1 c8
          refine gg_iload_n hG dX6_keep_47 rfl rfl ?_
          refine gg_mk hG [false, false, false] rfl ?_
          exact m_X6_keep_c48 hG (gg_rf6 kt0) h
        · replace h := h.2 c8
          refine gg_iload_n hG dX6_keep_42 rfl rfl ?_
          refine gg_i2s hG dX6_keep_43 ?_
          refine gg_goto (tgt := 48) hG dX6_keep_44 (by decide) ?_
          refine gg_mk hG [false, false, false] rfl ?_
          exact m_X6_keep_c48 hG (gg_rf6 kt0) h
      · replace h := h.2 c7
        refine gg_iload_n hG dX6_keep_29 rfl rfl ?_
        refine gg_i2b hG dX6_keep_30 ?_
        refine gg_goto (tgt := 48) hG dX6_keep_31 (by decide) ?_
        refine gg_mk hG [false, false, false] rfl ?_
        exact m_X6_keep_c48 hG (gg_rf6 kt0) h
theorem mt_X6_keep {t0 : Nat} {a1 : Int32} {a2 : Int32} (kt0 : gg_kd t0 = 6) {u : gg_M} {Q : gg_M → Prop} (h : w_X6_keep t0 a1 a2 u Q) : gg_Mt 2 yX6_keep cX6_keep 3 none [.ref t0, .int a1, .int a2] u (gg_eV Q) :=
  gg_intro (own := RX6) (by decide +kernel) rfl rfl (Nat.le_of_ble_eq_true rfl) (fun G hG => m_X6_keep hG kt0 h)
/-! X7_turnsToDrown -/
def w_X7_turnsToDrown_c36  (u : gg_M)  (Q : Int32 → gg_M → Prop) : Prop :=
  Q (-1) u
set_option maxRecDepth 10000 in
theorem m_X7_turnsToDrown_c36  {u : gg_M}  {G : gg_T} {Q : Int32 → gg_M → Prop} (hG : gg_Cl none cX7_turnsToDrown 6 RX7 (some .int) 4 (gg_eI Q) G)  (h : w_X7_turnsToDrown_c36  u  Q)   : G 36 [none, none, none, none, none, none] [] u := by
  unfold w_X7_turnsToDrown_c36 at h
  refine gg_iconst (v := (-1)) hG dX7_turnsToDrown_36 (by decide) ?_
  exact gg_iret hG dX7_turnsToDrown_37 rfl rfl ⟨_, rfl, h⟩
def b_X7_turnsToDrown_c9 (t0 : Nat) (a3 : Int32) (a4 : Int32) (u : gg_M)  (k9 : Int32 × gg_M → Prop) (Q : Int32 → gg_M → Prop) : Prop :=
  (100 < a4 →
   Q (-1) u) ∧
  (¬ 100 < a4 →
   w_X7_does t0 a3 u (fun v3 u2 =>
   (v3 = 2 →
    w_X7_turnsToDrown_c36 u2 Q) ∧
   (¬ v3 = 2 →
    (¬ v3 = 4 →
     ((u2.1 t0 3) < 6 →
      k9 ((a4 + 1), u2)) ∧
     (¬ (u2.1 t0 3) < 6 →
      Q a4 u2)) ∧
    (v3 = 4 →
     w_X7_turnsToDrown_c36 u2 Q))))
set_option maxRecDepth 10000 in
theorem mb_X7_turnsToDrown_c9 {t0 : Nat} {a3 : Int32} {a4 : Int32} {u : gg_M}  {k9 : Int32 × gg_M → Prop} {G : gg_T} {Q : Int32 → gg_M → Prop} (hG : gg_Cl none cX7_turnsToDrown 6 RX7 (some .int) 4 (gg_eI Q) G) (kt0 : gg_kd t0 = 7) (h : b_X7_turnsToDrown_c9 t0 a3 a4 u k9 Q)   (hk9 : ∀ s : Int32 × gg_M, k9 s → G 9 [some (.ref t0), some (.ref 6), none, some (.int a3), some (.int s.1), none] [] s.2) : G 9 [some (.ref t0), some (.ref 6), none, some (.int a3), some (.int a4), none] [] u := by
  unfold b_X7_turnsToDrown_c9 at h
  refine gg_iload hG dX7_turnsToDrown_9 rfl ?_
  refine gg_bipush (v := 100) hG dX7_turnsToDrown_11 (by decide) ?_
  refine gg_ic_gt (tgt := 56) hG dX7_turnsToDrown_13 (by decide) (fun c1 => ?_) (fun c1 => ?_)
  · replace h := h.1 c1
    refine gg_iconst (v := (-1)) hG dX7_turnsToDrown_56 (by decide) ?_
    exact gg_iret hG dX7_turnsToDrown_57 rfl rfl ⟨_, rfl, h⟩
  · replace h := h.2 c1
    refine gg_aload_n hG dX7_turnsToDrown_16 rfl rfl ?_
    refine gg_aload_n hG dX7_turnsToDrown_17 rfl rfl ?_
    refine gg_iload_n hG dX7_turnsToDrown_18 rfl rfl ?_
    refine gg_xv (As := [.ref 6, .int a3]) (st := []) hG dX7_turnsToDrown_19 ml_RX7_81 Y_X7_does YV_X7_does (gg_kd_lt kt0 (by decide)) (gg_rcv kt0 rfl) (mt_X7_does kt0 h) rfl (by decide) (Nat.le_of_ble_eq_true rfl) rfl (gg_ki (fun v3 u2 h => ?_))
    refine gg_istore (L1 := [some (.ref t0), some (.ref 6), none, some (.int a3), some (.int a4), some (.int v3)]) hG dX7_turnsToDrown_22 (by decide) rfl ?_
    refine gg_iload hG dX7_turnsToDrown_24 rfl ?_
    refine gg_iconst (v := 2) hG dX7_turnsToDrown_26 (by decide) ?_
    refine gg_ic_eq (tgt := 36) hG dX7_turnsToDrown_27 (by decide) (fun c4 => ?_) (fun c4 => ?_)
    · replace h := h.1 c4
      refine gg_mk hG [false, false, false, false, false, false] rfl ?_
      exact m_X7_turnsToDrown_c36 hG h
    · replace h := h.2 c4
      refine gg_iload hG dX7_turnsToDrown_30 rfl ?_
      refine gg_iconst (v := 4) hG dX7_turnsToDrown_32 (by decide) ?_
      refine gg_ic_ne (tgt := 38) hG dX7_turnsToDrown_33 (by decide) (fun c5 => ?_) (fun c5 => ?_)
      · replace h := h.1 c5
        refine gg_aload_n hG dX7_turnsToDrown_38 rfl rfl ?_
        refine gg_get (v := .int (u2.1 t0 3)) hG dX7_turnsToDrown_39 (gg_kd_lt kt0 (by decide)) kt0 fl_RX7_27 (gg_fvI kt0 rfl) ?_
        refine gg_bipush (v := 6) hG dX7_turnsToDrown_42 (by decide) ?_
        refine gg_ic_lt (tgt := 50) hG dX7_turnsToDrown_44 (by decide) (fun c6 => ?_) (fun c6 => ?_)
        · replace h := h.1 c6
          refine gg_iinc (v := (a4 + 1)) (L1 := [some (.ref t0), some (.ref 6), none, some (.int a3), some (.int (a4 + 1)), some (.int v3)]) hG dX7_turnsToDrown_50 rfl rfl (by decide) rfl ?_
          refine gg_goto (tgt := 9) hG dX7_turnsToDrown_53 (by decide) ?_
          refine gg_mk hG [true, true, false, true, true, false] rfl ?_
          exact hk9 _ h
        · replace h := h.2 c6
          refine gg_iload hG dX7_turnsToDrown_47 rfl ?_
          exact gg_iret hG dX7_turnsToDrown_49 rfl rfl ⟨_, rfl, h⟩
      · replace h := h.2 c5
        refine gg_mk hG [false, false, false, false, false, false] rfl ?_
        exact m_X7_turnsToDrown_c36 hG h
def w_X7_turnsToDrown_c9 (t0 : Nat) (a3 : Int32) (a4 : Int32) (u : gg_M)  (Q : Int32 → gg_M → Prop) : Prop :=
  gg_loop (fun (s : Int32 × gg_M) k9 => b_X7_turnsToDrown_c9 t0 a3 s.1 s.2  k9 Q) (a4, u)
set_option maxRecDepth 10000 in
theorem m_X7_turnsToDrown_c9 {t0 : Nat} {a3 : Int32} {a4 : Int32} {u : gg_M}  {G : gg_T} {Q : Int32 → gg_M → Prop} (hG : gg_Cl none cX7_turnsToDrown 6 RX7 (some .int) 4 (gg_eI Q) G) (kt0 : gg_kd t0 = 7) (h : w_X7_turnsToDrown_c9 t0 a3 a4 u  Q)   : G 9 [some (.ref t0), some (.ref 6), none, some (.int a3), some (.int a4), none] [] u :=
  gg_loop_use (P := fun s : Int32 × gg_M => G 9 [some (.ref t0), some (.ref 6), none, some (.int a3), some (.int s.1), none] [] s.2) h (fun s rc hb hr => mb_X7_turnsToDrown_c9 hG kt0 hb   hr)
def w_X7_turnsToDrown (t0 : Nat) (a2 : Int32) (a3 : Int32) (u : gg_M)  (Q : Int32 → gg_M → Prop) : Prop :=
  w_X7_begin t0 a2 u (fun u7 =>
  w_X7_turnsToDrown_c9 t0 a3 1 u7 Q)
set_option maxRecDepth 10000 in
theorem m_X7_turnsToDrown {t0 : Nat} {a2 : Int32} {a3 : Int32} {u : gg_M}  {G : gg_T} {Q : Int32 → gg_M → Prop} (hG : gg_Cl none cX7_turnsToDrown 6 RX7 (some .int) 4 (gg_eI Q) G) (kt0 : gg_kd t0 = 7) (h : w_X7_turnsToDrown t0 a2 a3 u  Q)   : G 0 [some (.ref t0), some (.ref 6), some (.int a2), some (.int a3), none, none] [] u := by
  unfold w_X7_turnsToDrown at h
  refine gg_aload_n hG dX7_turnsToDrown_0 rfl rfl ?_
  refine gg_aload_n hG dX7_turnsToDrown_1 rfl rfl ?_
  refine gg_iload_n hG dX7_turnsToDrown_2 rfl rfl ?_
  refine gg_xv (As := [.ref 6, .int a2]) (st := []) hG dX7_turnsToDrown_3 ml_RX7_77 Y_X7_begin YV_X7_begin (gg_kd_lt kt0 (by decide)) (gg_rcv kt0 rfl) (mt_X7_begin kt0 h) rfl (by decide) (Nat.le_of_ble_eq_true rfl) rfl (gg_kv (fun u7 h => ?_))
  refine gg_iconst (v := 1) hG dX7_turnsToDrown_6 (by decide) ?_
  refine gg_istore (L1 := [some (.ref t0), some (.ref 6), some (.int a2), some (.int a3), some (.int 1), none]) hG dX7_turnsToDrown_7 (by decide) rfl ?_
  refine gg_mk hG [true, true, false, true, true, false] rfl ?_
  exact m_X7_turnsToDrown_c9 hG kt0 h
theorem mt_X7_turnsToDrown {t0 : Nat} {a2 : Int32} {a3 : Int32} (kt0 : gg_kd t0 = 7) {u : gg_M} {Q : Int32 → gg_M → Prop} (h : w_X7_turnsToDrown t0 a2 a3 u Q) : gg_Mt 4 yX7_turnsToDrown cX7_turnsToDrown 6 (some .int) [.ref t0, .ref 6, .int a2, .int a3] u (gg_eI Q) :=
  gg_intro (own := RX7) (by decide +kernel) rfl rfl (Nat.le_of_ble_eq_true rfl) (fun G hG => m_X7_turnsToDrown hG kt0 h)
/-! X8_takes -/
def w_X8_takes_c19  (u : gg_M)  (Q : Int32 → gg_M → Prop) : Prop :=
  Q 0 u
set_option maxRecDepth 10000 in
theorem m_X8_takes_c19  {u : gg_M}  {G : gg_T} {Q : Int32 → gg_M → Prop} (hG : gg_Cl none cX8_takes 2 RX8 (some .boolean) 1 (gg_eI Q) G)  (h : w_X8_takes_c19  u  Q)   : G 19 [none, none] [] u := by
  unfold w_X8_takes_c19 at h
  refine gg_iconst (v := 0) hG dX8_takes_19 (by decide) ?_
  exact gg_iret hG dX8_takes_20 rfl (gg_nb (Or.inl rfl)).1 ⟨_, rfl, h⟩
def w_X8_takes (t0 : Nat) (a1 : Int32) (u : gg_M)  (Q : Int32 → gg_M → Prop) : Prop :=
  ((u.1 t0 1) < 0 →
   w_X8_takes_c19 u Q) ∧
  (¬ (u.1 t0 1) < 0 →
   ((u.1 t0 1) < (Int32.ofNat (gg_al (gg_rf t0 0))) →
    vp_in (u.1 t0 1) (gg_al (gg_rf t0 0)) ∧
    ∀ u4 : gg_M, u4 = gg_wI u (gg_rf t0 0) ((u.1 t0 1).toNatClampNeg) a1 →
    ∀ u5 : gg_M, u5 = gg_wI u4 t0 1 ((u4.1 t0 1) + 1) →
    Q 1 u5) ∧
   (¬ (u.1 t0 1) < (Int32.ofNat (gg_al (gg_rf t0 0))) →
    w_X8_takes_c19 u Q))
set_option maxRecDepth 10000 in
theorem m_X8_takes {t0 : Nat} {a1 : Int32} {u : gg_M}  {G : gg_T} {Q : Int32 → gg_M → Prop} (hG : gg_Cl none cX8_takes 2 RX8 (some .boolean) 1 (gg_eI Q) G) (kt0 : gg_kd t0 = 8) (h : w_X8_takes t0 a1 u  Q)   : G 0 [some (.ref t0), some (.int a1)] [] u := by
  unfold w_X8_takes at h
  refine gg_aload_n hG dX8_takes_0 rfl rfl ?_
  refine gg_get (v := .int (u.1 t0 1)) hG dX8_takes_1 (gg_kd_lt kt0 (by decide)) kt0 fl_RX8_21 (gg_fvI kt0 rfl) ?_
  refine gg_if_lt (tgt := 19) hG dX8_takes_4 (by decide) (fun c1 => ?_) (fun c1 => ?_)
  · replace h := h.1 c1
    refine gg_mk hG [false, false] rfl ?_
    exact m_X8_takes_c19 hG h
  · replace h := h.2 c1
    refine gg_aload_n hG dX8_takes_7 rfl rfl ?_
    refine gg_get (v := .int (u.1 t0 1)) hG dX8_takes_8 (gg_kd_lt kt0 (by decide)) kt0 fl_RX8_21 (gg_fvI kt0 rfl) ?_
    refine gg_aload_n hG dX8_takes_11 rfl rfl ?_
    refine gg_get (v := .ref (gg_rf t0 0)) hG dX8_takes_12 (gg_kd_lt kt0 (by decide)) kt0 fl_RX8_15 (gg_fvR kt0 rfl) ?_
    refine gg_alen hG dX8_takes_15 (gg_kd_lt (gg_rf8 kt0) (by decide)) (gg_rf8 kt0) rfl ?_
    refine gg_ic_lt (tgt := 21) hG dX8_takes_16 (by decide) (fun c2 => ?_) (fun c2 => ?_)
    · replace h := h.1 c2
      refine gg_aload_n hG dX8_takes_21 rfl rfl ?_
      refine gg_get (v := .ref (gg_rf t0 0)) hG dX8_takes_22 (gg_kd_lt kt0 (by decide)) kt0 fl_RX8_15 (gg_fvR kt0 rfl) ?_
      refine gg_aload_n hG dX8_takes_25 rfl rfl ?_
      refine gg_get (v := .int (u.1 t0 1)) hG dX8_takes_26 (gg_kd_lt kt0 (by decide)) kt0 fl_RX8_21 (gg_fvI kt0 rfl) ?_
      refine gg_iload_n hG dX8_takes_29 rfl rfl ?_
      obtain ⟨h3, h⟩ := h
      refine gg_iast (j := (u.1 t0 1).toNatClampNeg) hG dX8_takes_30 (gg_kd_lt (gg_rf8 kt0) (by decide)) (gg_rf8 kt0) h3 rfl ?_
      refine gg_nu (fun u4 eu4 => ?_)
      replace h := h u4 eu4
      refine gg_aload_n hG dX8_takes_31 rfl rfl ?_
      refine gg_dup hG dX8_takes_32 rfl ?_
      refine gg_get (v := .int (u4.1 t0 1)) hG dX8_takes_33 (gg_kd_lt kt0 (by decide)) kt0 fl_RX8_21 (gg_fvI kt0 rfl) ?_
      refine gg_iconst (v := 1) hG dX8_takes_36 (by decide) ?_
      refine gg_iadd hG dX8_takes_37 ?_
      refine gg_putI hG dX8_takes_38 (gg_kd_lt kt0 (by decide)) kt0 fp_RX8_21 rfl rfl rfl ?_
      refine gg_nu (fun u5 eu5 => ?_)
      replace h := h u5 eu5
      refine gg_iconst (v := 1) hG dX8_takes_41 (by decide) ?_
      exact gg_iret hG dX8_takes_42 rfl (gg_nb (Or.inr rfl)).1 ⟨_, rfl, h⟩
    · replace h := h.2 c2
      refine gg_mk hG [false, false] rfl ?_
      exact m_X8_takes_c19 hG h
theorem mt_X8_takes {t0 : Nat} {a1 : Int32} (kt0 : gg_kd t0 = 8) {u : gg_M} {Q : Int32 → gg_M → Prop} (h : w_X8_takes t0 a1 u Q) : gg_Mt 1 yX8_takes cX8_takes 2 (some .boolean) [.ref t0, .int a1] u (gg_eI Q) :=
  gg_intro (own := RX8) (by decide +kernel) rfl rfl (Nat.le_of_ble_eq_true rfl) (fun G hG => m_X8_takes hG kt0 h)
/-! X9_learn -/
def w_X9_learn_c105 (t3 : Nat) (a4 : Int32) (z1 : Int32) (z2 : Int32) (u : gg_M) (k8 : Int32 × gg_M → Prop) (Q : gg_M → Prop) : Prop :=
  ∀ u1 : gg_M, u1 = gg_wI u 31 2 (z1 ||| z2) →
  k8 ((a4 + 1), u1)
set_option maxRecDepth 10000 in
theorem m_X9_learn_c105 {t3 : Nat} {a4 : Int32} {z1 : Int32} {z2 : Int32} {u : gg_M} {k8 : Int32 × gg_M → Prop} {G : gg_T} {Q : gg_M → Prop} (hG : gg_Cl none cX9_learn 6 RX9 none 4 (gg_eV Q) G) (kt3 : gg_kd t3 = 7) (h : w_X9_learn_c105 t3 a4 z1 z2 u k8 Q)  (hk8 : ∀ s : Int32 × gg_M, k8 s → G 8 [some (.ref 31), some (.ref 6), some (.ref 8), some (.ref t3), some (.int s.1), none] [] s.2) : G 105 [some (.ref 31), some (.ref 6), some (.ref 8), some (.ref t3), some (.int a4), none] [.int z2, .int z1, .ref 31] u := by
  unfold w_X9_learn_c105 at h
  refine gg_ior hG dX9_learn_105 ?_
  refine gg_putI hG dX9_learn_106 (by decide) rfl fp_RX9_15 rfl rfl rfl ?_
  refine gg_nu (fun u1 eu1 => ?_)
  replace h := h u1 eu1
  refine gg_iinc (v := (a4 + 1)) (L1 := [some (.ref 31), some (.ref 6), some (.ref 8), some (.ref t3), some (.int (a4 + 1)), none]) hG dX9_learn_109 rfl rfl (by decide) rfl ?_
  refine gg_goto (tgt := 8) hG dX9_learn_112 (by decide) ?_
  exact hk8 _ h
def w_X9_learn_c85 (t3 : Nat) (a4 : Int32) (u : gg_M) (k8 : Int32 × gg_M → Prop) (Q : gg_M → Prop) : Prop :=
  ((u.1 t3 7) = 0 →
   w_X9_learn_c105 t3 a4 (u.1 31 2) 0 u k8 Q) ∧
  (¬ (u.1 t3 7) = 0 →
   w_X9_learn_c105 t3 a4 (u.1 31 2) ((1 : Int32) <<< (a4 &&& 31)) u k8 Q)
set_option maxRecDepth 10000 in
theorem m_X9_learn_c85 {t3 : Nat} {a4 : Int32} {u : gg_M} {k8 : Int32 × gg_M → Prop} {G : gg_T} {Q : gg_M → Prop} (hG : gg_Cl none cX9_learn 6 RX9 none 4 (gg_eV Q) G) (kt3 : gg_kd t3 = 7) (h : w_X9_learn_c85 t3 a4 u k8 Q)  (hk8 : ∀ s : Int32 × gg_M, k8 s → G 8 [some (.ref 31), some (.ref 6), some (.ref 8), some (.ref t3), some (.int s.1), none] [] s.2) : G 85 [some (.ref 31), some (.ref 6), some (.ref 8), some (.ref t3), some (.int a4), none] [] u := by
  unfold w_X9_learn_c85 at h
  refine gg_aload_n hG dX9_learn_85 rfl rfl ?_
  refine gg_dup hG dX9_learn_86 rfl ?_
  refine gg_get (v := .int (u.1 31 2)) hG dX9_learn_87 (by decide) rfl fl_RX9_15 rfl ?_
  refine gg_aload_n hG dX9_learn_90 rfl rfl ?_
  refine gg_get (v := .int (u.1 t3 7)) hG dX9_learn_91 (gg_kd_lt kt3 (by decide)) kt3 fl_RX9_38 (gg_fvI kt3 rfl) ?_
  refine gg_if_eq (tgt := 104) hG dX9_learn_94 (by decide) (fun c2 => ?_) (fun c2 => ?_)
  · replace h := h.1 c2
    refine gg_iconst (v := 0) hG dX9_learn_104 (by decide) ?_
    exact m_X9_learn_c105 hG kt3 h hk8
  · replace h := h.2 c2
    refine gg_iconst (v := 1) hG dX9_learn_97 (by decide) ?_
    refine gg_iload hG dX9_learn_98 rfl ?_
    refine gg_ishl hG dX9_learn_100 ?_
    refine gg_goto (tgt := 105) hG dX9_learn_101 (by decide) ?_
    exact m_X9_learn_c105 hG kt3 h hk8
def w_X9_learn_c77 (t3 : Nat) (a4 : Int32) (a5 : Int32) (z1 : Int32) (z2 : Int32) (z3 : Int32) (u : gg_M) (k8 : Int32 × gg_M → Prop) (k33 : Int32 × gg_M → Prop) (Q : gg_M → Prop) : Prop :=
  vp_in z1 32 ∧
  ∀ u4 : gg_M, u4 = gg_wI u 32 z1.toNatClampNeg (z2 + z3) →
  k33 ((a5 + 1), u4)
set_option maxRecDepth 10000 in
theorem m_X9_learn_c77 {t3 : Nat} {a4 : Int32} {a5 : Int32} {z1 : Int32} {z2 : Int32} {z3 : Int32} {u : gg_M} {k8 : Int32 × gg_M → Prop} {k33 : Int32 × gg_M → Prop} {G : gg_T} {Q : gg_M → Prop} (hG : gg_Cl none cX9_learn 6 RX9 none 4 (gg_eV Q) G) (kt3 : gg_kd t3 = 7) (h : w_X9_learn_c77 t3 a4 a5 z1 z2 z3 u k8 k33 Q)  (hk8 : ∀ s : Int32 × gg_M, k8 s → G 8 [some (.ref 31), some (.ref 6), some (.ref 8), some (.ref t3), some (.int s.1), none] [] s.2) (hk33 : ∀ s : Int32 × gg_M, k33 s → G 33 [some (.ref 31), some (.ref 6), some (.ref 8), some (.ref t3), some (.int a4), some (.int s.1)] [] s.2) : G 77 [some (.ref 31), some (.ref 6), some (.ref 8), some (.ref t3), some (.int a4), some (.int a5)] [.int z3, .int z2, .int z1, .ref 32] u := by
  unfold w_X9_learn_c77 at h
  refine gg_iadd hG dX9_learn_77 ?_
  obtain ⟨h3, h⟩ := h
  refine gg_iast (j := z1.toNatClampNeg) hG dX9_learn_78 (by decide) rfl h3 rfl ?_
  refine gg_nu (fun u4 eu4 => ?_)
  replace h := h u4 eu4
  refine gg_iinc (v := (a5 + 1)) (L1 := [some (.ref 31), some (.ref 6), some (.ref 8), some (.ref t3), some (.int a4), some (.int (a5 + 1))]) hG dX9_learn_79 rfl rfl (by decide) rfl ?_
  refine gg_goto (tgt := 33) hG dX9_learn_82 (by decide) ?_
  exact hk33 _ h
def b_X9_learn_c33 (t3 : Nat) (a4 : Int32) (a5 : Int32) (u : gg_M) (k8 : Int32 × gg_M → Prop) (k33 : Int32 × gg_M → Prop) (Q : gg_M → Prop) : Prop :=
  ((u.1 8 1) ≤ a5 →
   w_X9_learn_c85 t3 a4 u k8 Q) ∧
  (¬ (u.1 8 1) ≤ a5 →
   (90 ≤ a5 →
    w_X9_learn_c85 t3 a4 u k8 Q) ∧
   (¬ 90 ≤ a5 →
    vp_in a4 32 ∧
    w_X5_actAt a5 u (fun v9 u8 =>
    w_X7_does t3 v9 u8 (fun v11 u10 =>
    (¬ v11 = 4 →
     w_X9_learn_c77 t3 a4 a5 a4 (u.1 32 a4.toNatClampNeg) 1 u10 k8 k33 Q) ∧
    (v11 = 4 →
     w_X9_learn_c77 t3 a4 a5 a4 (u.1 32 a4.toNatClampNeg) 0 u10 k8 k33 Q)))))
set_option maxRecDepth 10000 in
theorem mb_X9_learn_c33 {t3 : Nat} {a4 : Int32} {a5 : Int32} {u : gg_M} {k8 : Int32 × gg_M → Prop} {k33 : Int32 × gg_M → Prop} {G : gg_T} {Q : gg_M → Prop} (hG : gg_Cl none cX9_learn 6 RX9 none 4 (gg_eV Q) G) (kt3 : gg_kd t3 = 7) (h : b_X9_learn_c33 t3 a4 a5 u k8 k33 Q)  (hk8 : ∀ s : Int32 × gg_M, k8 s → G 8 [some (.ref 31), some (.ref 6), some (.ref 8), some (.ref t3), some (.int s.1), none] [] s.2) (hk33 : ∀ s : Int32 × gg_M, k33 s → G 33 [some (.ref 31), some (.ref 6), some (.ref 8), some (.ref t3), some (.int a4), some (.int s.1)] [] s.2) : G 33 [some (.ref 31), some (.ref 6), some (.ref 8), some (.ref t3), some (.int a4), some (.int a5)] [] u := by
  unfold b_X9_learn_c33 at h
  refine gg_iload hG dX9_learn_33 rfl ?_
  refine gg_aload_n hG dX9_learn_35 rfl rfl ?_
  refine gg_get (v := .int (u.1 8 1)) hG dX9_learn_36 (by decide) rfl fl_RX9_25 rfl ?_
  refine gg_ic_ge (tgt := 85) hG dX9_learn_39 (by decide) (fun c5 => ?_) (fun c5 => ?_)
  · replace h := h.1 c5
    refine gg_mk hG [true, true, true, true, true, false] rfl ?_
    exact m_X9_learn_c85 hG kt3 h hk8
  · replace h := h.2 c5
    refine gg_iload hG dX9_learn_42 rfl ?_
    refine gg_bipush (v := 90) hG dX9_learn_44 (by decide) ?_
    refine gg_ic_ge (tgt := 85) hG dX9_learn_46 (by decide) (fun c6 => ?_) (fun c6 => ?_)
    · replace h := h.1 c6
      refine gg_mk hG [true, true, true, true, true, false] rfl ?_
      exact m_X9_learn_c85 hG kt3 h hk8
    · replace h := h.2 c6
      refine gg_aload_n hG dX9_learn_49 rfl rfl ?_
      refine gg_get (v := .ref 32) hG dX9_learn_50 (by decide) rfl fl_RX9_9 rfl ?_
      refine gg_iload hG dX9_learn_53 rfl ?_
      refine gg_dup2 hG dX9_learn_55 rfl rfl ?_
      obtain ⟨h7, h⟩ := h
      refine gg_iald (j := a4.toNatClampNeg) hG dX9_learn_56 (by decide) rfl h7 rfl ?_
      refine gg_aload_n hG dX9_learn_57 rfl rfl ?_
      refine gg_aload_n hG dX9_learn_58 rfl rfl ?_
      refine gg_aload_n hG dX9_learn_59 rfl rfl ?_
      refine gg_iload hG dX9_learn_60 rfl ?_
      refine gg_xv (As := [.int a5]) (st := [.ref 6, .ref t3, .int (u.1 32 a4.toNatClampNeg), .int a4, .ref 32]) hG dX9_learn_62 ml_RX9_30 Y_X5_actAt YV_X5_actAt (by decide) ⟨_, rfl, rfl⟩ (mt_X5_actAt h) rfl (by decide) (Nat.le_of_ble_eq_true rfl) rfl (gg_ki (fun v9 u8 h => ?_))
      refine gg_xv (As := [.ref 6, .int v9]) (st := [.int (u.1 32 a4.toNatClampNeg), .int a4, .ref 32]) hG dX9_learn_65 ml_RX9_34 Y_X7_does YV_X7_does (gg_kd_lt kt3 (by decide)) (gg_rcv kt3 rfl) (mt_X7_does kt3 h) rfl (by decide) (Nat.le_of_ble_eq_true rfl) rfl (gg_ki (fun v11 u10 h => ?_))
      refine gg_iconst (v := 4) hG dX9_learn_68 (by decide) ?_
      refine gg_ic_ne (tgt := 76) hG dX9_learn_69 (by decide) (fun c12 => ?_) (fun c12 => ?_)
      · replace h := h.1 c12
        refine gg_iconst (v := 1) hG dX9_learn_76 (by decide) ?_
        exact m_X9_learn_c77 hG kt3 h hk8 hk33
      · replace h := h.2 c12
        refine gg_iconst (v := 0) hG dX9_learn_72 (by decide) ?_
        refine gg_goto (tgt := 77) hG dX9_learn_73 (by decide) ?_
        exact m_X9_learn_c77 hG kt3 h hk8 hk33
def w_X9_learn_c33 (t3 : Nat) (a4 : Int32) (a5 : Int32) (u : gg_M) (k8 : Int32 × gg_M → Prop) (Q : gg_M → Prop) : Prop :=
  gg_loop (fun (s : Int32 × gg_M) k33 => b_X9_learn_c33 t3 a4 s.1 s.2 k8 k33 Q) (a5, u)
set_option maxRecDepth 10000 in
theorem m_X9_learn_c33 {t3 : Nat} {a4 : Int32} {a5 : Int32} {u : gg_M} {k8 : Int32 × gg_M → Prop} {G : gg_T} {Q : gg_M → Prop} (hG : gg_Cl none cX9_learn 6 RX9 none 4 (gg_eV Q) G) (kt3 : gg_kd t3 = 7) (h : w_X9_learn_c33 t3 a4 a5 u k8 Q)  (hk8 : ∀ s : Int32 × gg_M, k8 s → G 8 [some (.ref 31), some (.ref 6), some (.ref 8), some (.ref t3), some (.int s.1), none] [] s.2) : G 33 [some (.ref 31), some (.ref 6), some (.ref 8), some (.ref t3), some (.int a4), some (.int a5)] [] u :=
  gg_loop_use (P := fun s : Int32 × gg_M => G 33 [some (.ref 31), some (.ref 6), some (.ref 8), some (.ref t3), some (.int a4), some (.int s.1)] [] s.2) h (fun s rc hb hr => mb_X9_learn_c33 hG kt3 hb  hk8 hr)
def b_X9_learn_c8 (t3 : Nat) (a4 : Int32) (u : gg_M)  (k8 : Int32 × gg_M → Prop) (Q : gg_M → Prop) : Prop :=
  (32 ≤ a4 →
   ∀ u14 : gg_M, u14 = gg_wI u 31 1 1 →
   Q u14) ∧
  (¬ 32 ≤ a4 →
   w_X7_begin t3 a4 u (fun u15 =>
   vp_in a4 32 ∧
   ∀ u17 : gg_M, u17 = gg_wI u15 32 a4.toNatClampNeg 0 →
   w_X9_learn_c33 t3 a4 0 u17 k8 Q))
set_option maxRecDepth 10000 in
theorem mb_X9_learn_c8 {t3 : Nat} {a4 : Int32} {u : gg_M}  {k8 : Int32 × gg_M → Prop} {G : gg_T} {Q : gg_M → Prop} (hG : gg_Cl none cX9_learn 6 RX9 none 4 (gg_eV Q) G) (kt3 : gg_kd t3 = 7) (h : b_X9_learn_c8 t3 a4 u k8 Q)   (hk8 : ∀ s : Int32 × gg_M, k8 s → G 8 [some (.ref 31), some (.ref 6), some (.ref 8), some (.ref t3), some (.int s.1), none] [] s.2) : G 8 [some (.ref 31), some (.ref 6), some (.ref 8), some (.ref t3), some (.int a4), none] [] u := by
  unfold b_X9_learn_c8 at h
  refine gg_iload hG dX9_learn_8 rfl ?_
  refine gg_bipush (v := 32) hG dX9_learn_10 (by decide) ?_
  refine gg_ic_ge (tgt := 115) hG dX9_learn_12 (by decide) (fun c13 => ?_) (fun c13 => ?_)
  · replace h := h.1 c13
    refine gg_aload_n hG dX9_learn_115 rfl rfl ?_
    refine gg_iconst (v := 1) hG dX9_learn_116 (by decide) ?_
    refine gg_putI hG dX9_learn_117 (by decide) rfl fp_RX9_42 rfl (gg_nb (Or.inr rfl)).1 (gg_nb (Or.inr rfl)).2 ?_
    refine gg_nu (fun u14 eu14 => ?_)
    replace h := h u14 eu14
    exact gg_vret hG dX9_learn_120 rfl ⟨rfl, h⟩
  · replace h := h.2 c13
    refine gg_aload_n hG dX9_learn_15 rfl rfl ?_
    refine gg_aload_n hG dX9_learn_16 rfl rfl ?_
    refine gg_iload hG dX9_learn_17 rfl ?_
    refine gg_xv (As := [.ref 6, .int a4]) (st := []) hG dX9_learn_19 ml_RX9_19 Y_X7_begin YV_X7_begin (gg_kd_lt kt3 (by decide)) (gg_rcv kt3 rfl) (mt_X7_begin kt3 h) rfl (by decide) (Nat.le_of_ble_eq_true rfl) rfl (gg_kv (fun u15 h => ?_))
    refine gg_aload_n hG dX9_learn_22 rfl rfl ?_
    refine gg_get (v := .ref 32) hG dX9_learn_23 (by decide) rfl fl_RX9_9 rfl ?_
    refine gg_iload hG dX9_learn_26 rfl ?_
    refine gg_iconst (v := 0) hG dX9_learn_28 (by decide) ?_
    obtain ⟨h16, h⟩ := h
    refine gg_iast (j := a4.toNatClampNeg) hG dX9_learn_29 (by decide) rfl h16 rfl ?_
    refine gg_nu (fun u17 eu17 => ?_)
    replace h := h u17 eu17
    refine gg_iconst (v := 0) hG dX9_learn_30 (by decide) ?_
    refine gg_istore (L1 := [some (.ref 31), some (.ref 6), some (.ref 8), some (.ref t3), some (.int a4), some (.int 0)]) hG dX9_learn_31 (by decide) rfl ?_
    exact m_X9_learn_c33 hG kt3 h hk8
def w_X9_learn_c8 (t3 : Nat) (a4 : Int32) (u : gg_M)  (Q : gg_M → Prop) : Prop :=
  gg_loop (fun (s : Int32 × gg_M) k8 => b_X9_learn_c8 t3 s.1 s.2  k8 Q) (a4, u)
set_option maxRecDepth 10000 in
theorem m_X9_learn_c8 {t3 : Nat} {a4 : Int32} {u : gg_M}  {G : gg_T} {Q : gg_M → Prop} (hG : gg_Cl none cX9_learn 6 RX9 none 4 (gg_eV Q) G) (kt3 : gg_kd t3 = 7) (h : w_X9_learn_c8 t3 a4 u  Q)   : G 8 [some (.ref 31), some (.ref 6), some (.ref 8), some (.ref t3), some (.int a4), none] [] u :=
  gg_loop_use (P := fun s : Int32 × gg_M => G 8 [some (.ref 31), some (.ref 6), some (.ref 8), some (.ref t3), some (.int s.1), none] [] s.2) h (fun s rc hb hr => mb_X9_learn_c8 hG kt3 hb   hr)
def w_X9_learn (t3 : Nat) (u : gg_M)  (Q : gg_M → Prop) : Prop :=
  ∀ u18 : gg_M, u18 = gg_wI u 31 2 0 →
  w_X9_learn_c8 t3 0 u18 Q
set_option maxRecDepth 10000 in
theorem m_X9_learn {t3 : Nat} {u : gg_M}  {G : gg_T} {Q : gg_M → Prop} (hG : gg_Cl none cX9_learn 6 RX9 none 4 (gg_eV Q) G) (kt3 : gg_kd t3 = 7) (h : w_X9_learn t3 u  Q)   : G 0 [some (.ref 31), some (.ref 6), some (.ref 8), some (.ref t3), none, none] [] u := by
  unfold w_X9_learn at h
  refine gg_aload_n hG dX9_learn_0 rfl rfl ?_
  refine gg_iconst (v := 0) hG dX9_learn_1 (by decide) ?_
  refine gg_putI hG dX9_learn_2 (by decide) rfl fp_RX9_15 rfl rfl rfl ?_
  refine gg_nu (fun u18 eu18 => ?_)
  replace h := h u18 eu18
  refine gg_iconst (v := 0) hG dX9_learn_5 (by decide) ?_
  refine gg_istore (L1 := [some (.ref 31), some (.ref 6), some (.ref 8), some (.ref t3), some (.int 0), none]) hG dX9_learn_6 (by decide) rfl ?_
  exact m_X9_learn_c8 hG kt3 h
theorem mt_X9_learn {t3 : Nat} (kt3 : gg_kd t3 = 7) {u : gg_M} {Q : gg_M → Prop} (h : w_X9_learn t3 u Q) : gg_Mt 4 yX9_learn cX9_learn 6 none [.ref 31, .ref 6, .ref 8, .ref t3] u (gg_eV Q) :=
  gg_intro (own := RX9) (by decide +kernel) rfl rfl (Nat.le_of_ble_eq_true rfl) (fun G hG => m_X9_learn hG kt3 h)
/-! X9_weightHaving -/
def b_X9_weightHaving_c5 (a2 : Int32) (a3 : Int64) (a5 : Int32) (u : gg_M)  (k5 : Int64 × Int32 × gg_M → Prop) (Q : Int64 → gg_M → Prop) : Prop :=
  (32 ≤ a5 →
   Q a3 u) ∧
  (¬ 32 ≤ a5 →
   w_X0_weightOf a5 a2 u (fun v3 u2 =>
   ∀ v4 : Int64, v4 = (a3 + (((gu_ushr (u.1 31 2) a5) &&& 1) * v3).toInt64) →
   k5 (v4, (a5 + 1), u2)))
set_option maxRecDepth 10000 in
theorem mb_X9_weightHaving_c5 {a2 : Int32} {a3 : Int64} {a5 : Int32} {u : gg_M}  {k5 : Int64 × Int32 × gg_M → Prop} {G : gg_T} {Q : Int64 → gg_M → Prop} (hG : gg_Cl none cX9_weightHaving 6 RX9 (some .long) 2 (gg_eJ Q) G)  (h : b_X9_weightHaving_c5 a2 a3 a5 u k5 Q)   (hk5 : ∀ s : Int64 × Int32 × gg_M, k5 s → G 5 [some (.ref 31), some (.ref 10), some (.int a2), some (.long s.1), none, some (.int s.2.1)] [] s.2.2) : G 5 [some (.ref 31), some (.ref 10), some (.int a2), some (.long a3), none, some (.int a5)] [] u := by
  unfold b_X9_weightHaving_c5 at h
  refine gg_iload hG dX9_weightHaving_5 rfl ?_
  refine gg_bipush (v := 32) hG dX9_weightHaving_7 (by decide) ?_
  refine gg_ic_ge (tgt := 39) hG dX9_weightHaving_9 (by decide) (fun c1 => ?_) (fun c1 => ?_)
  · replace h := h.1 c1
    refine gg_lload_n hG dX9_weightHaving_39 rfl rfl ?_
    exact gg_lret hG dX9_weightHaving_40 rfl ⟨_, rfl, h⟩
  · replace h := h.2 c1
    refine gg_lload_n hG dX9_weightHaving_12 rfl rfl ?_
    refine gg_aload_n hG dX9_weightHaving_13 rfl rfl ?_
    refine gg_get (v := .int (u.1 31 2)) hG dX9_weightHaving_14 (by decide) rfl fl_RX9_15 rfl ?_
    refine gg_iload hG dX9_weightHaving_17 rfl ?_
    refine gg_iushr hG dX9_weightHaving_19 ?_
    refine gg_iconst (v := 1) hG dX9_weightHaving_20 (by decide) ?_
    refine gg_iand hG dX9_weightHaving_21 ?_
    refine gg_aload_n hG dX9_weightHaving_22 rfl rfl ?_
    refine gg_iload hG dX9_weightHaving_23 rfl ?_
    refine gg_iload_n hG dX9_weightHaving_25 rfl rfl ?_
    refine gg_xv (As := [.int a5, .int a2]) (st := [.int ((gu_ushr (u.1 31 2) a5) &&& 1), .long a3]) hG dX9_weightHaving_26 ml_RX9_45 Y_X0_weightOf YV_X0_weightOf (by decide) ⟨_, rfl, rfl⟩ (mt_X0_weightOf h) rfl (by decide) (Nat.le_of_ble_eq_true rfl) rfl (gg_ki (fun v3 u2 h => ?_))
    refine gg_imul hG dX9_weightHaving_29 ?_
    refine gg_i2l hG dX9_weightHaving_30 ?_
    refine gg_ladd hG dX9_weightHaving_31 ?_
    refine gg_nl (fun v4 e4 => ?_)
    replace h := h v4 e4
    refine gg_lstore_n (L1 := [some (.ref 31), some (.ref 10), some (.int a2), some (.long v4), none, some (.int a5)]) hG dX9_weightHaving_32 rfl (by decide) rfl ?_
    refine gg_iinc (v := (a5 + 1)) (L1 := [some (.ref 31), some (.ref 10), some (.int a2), some (.long v4), none, some (.int (a5 + 1))]) hG dX9_weightHaving_33 rfl rfl (by decide) rfl ?_
    refine gg_goto (tgt := 5) hG dX9_weightHaving_36 (by decide) ?_
    exact hk5 _ h
def w_X9_weightHaving_c5 (a2 : Int32) (a3 : Int64) (a5 : Int32) (u : gg_M)  (Q : Int64 → gg_M → Prop) : Prop :=
  gg_loop (fun (s : Int64 × Int32 × gg_M) k5 => b_X9_weightHaving_c5 a2 s.1 s.2.1 s.2.2  k5 Q) (a3, a5, u)
set_option maxRecDepth 10000 in
theorem m_X9_weightHaving_c5 {a2 : Int32} {a3 : Int64} {a5 : Int32} {u : gg_M}  {G : gg_T} {Q : Int64 → gg_M → Prop} (hG : gg_Cl none cX9_weightHaving 6 RX9 (some .long) 2 (gg_eJ Q) G)  (h : w_X9_weightHaving_c5 a2 a3 a5 u  Q)   : G 5 [some (.ref 31), some (.ref 10), some (.int a2), some (.long a3), none, some (.int a5)] [] u :=
  gg_loop_use (P := fun s : Int64 × Int32 × gg_M => G 5 [some (.ref 31), some (.ref 10), some (.int a2), some (.long s.1), none, some (.int s.2.1)] [] s.2.2) h (fun s rc hb hr => mb_X9_weightHaving_c5 hG  hb   hr)
def w_X9_weightHaving (a2 : Int32) (u : gg_M)  (Q : Int64 → gg_M → Prop) : Prop :=
  w_X9_weightHaving_c5 a2 0 0 u Q
set_option maxRecDepth 10000 in
theorem m_X9_weightHaving {a2 : Int32} {u : gg_M}  {G : gg_T} {Q : Int64 → gg_M → Prop} (hG : gg_Cl none cX9_weightHaving 6 RX9 (some .long) 2 (gg_eJ Q) G)  (h : w_X9_weightHaving a2 u  Q)   : G 0 [some (.ref 31), some (.ref 10), some (.int a2), none, none, none] [] u := by
  unfold w_X9_weightHaving at h
  refine gg_lconst (v := 0) hG dX9_weightHaving_0 (by decide) ?_
  refine gg_lstore_n (L1 := [some (.ref 31), some (.ref 10), some (.int a2), some (.long 0), none, none]) hG dX9_weightHaving_1 rfl (by decide) rfl ?_
  refine gg_iconst (v := 0) hG dX9_weightHaving_2 (by decide) ?_
  refine gg_istore (L1 := [some (.ref 31), some (.ref 10), some (.int a2), some (.long 0), none, some (.int 0)]) hG dX9_weightHaving_3 (by decide) rfl ?_
  exact m_X9_weightHaving_c5 hG h
theorem mt_X9_weightHaving {a2 : Int32}  {u : gg_M} {Q : Int64 → gg_M → Prop} (h : w_X9_weightHaving a2 u Q) : gg_Mt 2 yX9_weightHaving cX9_weightHaving 6 (some .long) [.ref 31, .ref 10, .int a2] u (gg_eJ Q) :=
  gg_intro (own := RX9) (by decide +kernel) rfl rfl (Nat.le_of_ble_eq_true rfl) (fun G hG => m_X9_weightHaving hG  h)
/-! X9_actsDone -/
def b_X9_actsDone_c5  (a2 : Int64) (a4 : Int32) (u : gg_M)  (k5 : Int64 × Int32 × gg_M → Prop) (Q : Int64 → gg_M → Prop) : Prop :=
  (32 ≤ a4 →
   Q a2 u) ∧
  (¬ 32 ≤ a4 →
   vp_in a4 32 ∧
   w_X0_weightOf a4 (-1) u (fun v4 u3 =>
   ∀ v5 : Int64, v5 = (a2 + ((u.1 32 a4.toNatClampNeg).toInt64 * v4.toInt64)) →
   k5 (v5, (a4 + 1), u3)))
set_option maxRecDepth 10000 in
theorem mb_X9_actsDone_c5  {a2 : Int64} {a4 : Int32} {u : gg_M}  {k5 : Int64 × Int32 × gg_M → Prop} {G : gg_T} {Q : Int64 → gg_M → Prop} (hG : gg_Cl none cX9_actsDone 5 RX9 (some .long) 2 (gg_eJ Q) G)  (h : b_X9_actsDone_c5 a2 a4 u k5 Q)   (hk5 : ∀ s : Int64 × Int32 × gg_M, k5 s → G 5 [some (.ref 31), some (.ref 10), some (.long s.1), none, some (.int s.2.1)] [] s.2.2) : G 5 [some (.ref 31), some (.ref 10), some (.long a2), none, some (.int a4)] [] u := by
  unfold b_X9_actsDone_c5 at h
  refine gg_iload hG dX9_actsDone_5 rfl ?_
  refine gg_bipush (v := 32) hG dX9_actsDone_7 (by decide) ?_
  refine gg_ic_ge (tgt := 38) hG dX9_actsDone_9 (by decide) (fun c1 => ?_) (fun c1 => ?_)
  · replace h := h.1 c1
    refine gg_lload_n hG dX9_actsDone_38 rfl rfl ?_
    exact gg_lret hG dX9_actsDone_39 rfl ⟨_, rfl, h⟩
  · replace h := h.2 c1
    refine gg_lload_n hG dX9_actsDone_12 rfl rfl ?_
    refine gg_aload_n hG dX9_actsDone_13 rfl rfl ?_
    refine gg_get (v := .ref 32) hG dX9_actsDone_14 (by decide) rfl fl_RX9_9 rfl ?_
    refine gg_iload hG dX9_actsDone_17 rfl ?_
    obtain ⟨h2, h⟩ := h
    refine gg_iald (j := a4.toNatClampNeg) hG dX9_actsDone_19 (by decide) rfl h2 rfl ?_
    refine gg_i2l hG dX9_actsDone_20 ?_
    refine gg_aload_n hG dX9_actsDone_21 rfl rfl ?_
    refine gg_iload hG dX9_actsDone_22 rfl ?_
    refine gg_iconst (v := (-1)) hG dX9_actsDone_24 (by decide) ?_
    refine gg_xv (As := [.int a4, .int (-1)]) (st := [.long (u.1 32 a4.toNatClampNeg).toInt64, .long a2]) hG dX9_actsDone_25 ml_RX9_45 Y_X0_weightOf YV_X0_weightOf (by decide) ⟨_, rfl, rfl⟩ (mt_X0_weightOf h) rfl (by decide) (Nat.le_of_ble_eq_true rfl) rfl (gg_ki (fun v4 u3 h => ?_))
    refine gg_i2l hG dX9_actsDone_28 ?_
    refine gg_lmul hG dX9_actsDone_29 ?_
    refine gg_ladd hG dX9_actsDone_30 ?_
    refine gg_nl (fun v5 e5 => ?_)
    replace h := h v5 e5
    refine gg_lstore_n (L1 := [some (.ref 31), some (.ref 10), some (.long v5), none, some (.int a4)]) hG dX9_actsDone_31 rfl (by decide) rfl ?_
    refine gg_iinc (v := (a4 + 1)) (L1 := [some (.ref 31), some (.ref 10), some (.long v5), none, some (.int (a4 + 1))]) hG dX9_actsDone_32 rfl rfl (by decide) rfl ?_
    refine gg_goto (tgt := 5) hG dX9_actsDone_35 (by decide) ?_
    exact hk5 _ h
def w_X9_actsDone_c5 (a2 : Int64) (a4 : Int32) (u : gg_M)  (Q : Int64 → gg_M → Prop) : Prop :=
  gg_loop (fun (s : Int64 × Int32 × gg_M) k5 => b_X9_actsDone_c5  s.1 s.2.1 s.2.2  k5 Q) (a2, a4, u)
set_option maxRecDepth 10000 in
theorem m_X9_actsDone_c5 {a2 : Int64} {a4 : Int32} {u : gg_M}  {G : gg_T} {Q : Int64 → gg_M → Prop} (hG : gg_Cl none cX9_actsDone 5 RX9 (some .long) 2 (gg_eJ Q) G)  (h : w_X9_actsDone_c5 a2 a4 u  Q)   : G 5 [some (.ref 31), some (.ref 10), some (.long a2), none, some (.int a4)] [] u :=
  gg_loop_use (P := fun s : Int64 × Int32 × gg_M => G 5 [some (.ref 31), some (.ref 10), some (.long s.1), none, some (.int s.2.1)] [] s.2.2) h (fun s rc hb hr => mb_X9_actsDone_c5 hG  hb   hr)
def w_X9_actsDone  (u : gg_M)  (Q : Int64 → gg_M → Prop) : Prop :=
  w_X9_actsDone_c5 0 0 u Q
set_option maxRecDepth 10000 in
theorem m_X9_actsDone  {u : gg_M}  {G : gg_T} {Q : Int64 → gg_M → Prop} (hG : gg_Cl none cX9_actsDone 5 RX9 (some .long) 2 (gg_eJ Q) G)  (h : w_X9_actsDone  u  Q)   : G 0 [some (.ref 31), some (.ref 10), none, none, none] [] u := by
  unfold w_X9_actsDone at h
  refine gg_lconst (v := 0) hG dX9_actsDone_0 (by decide) ?_
  refine gg_lstore_n (L1 := [some (.ref 31), some (.ref 10), some (.long 0), none, none]) hG dX9_actsDone_1 rfl (by decide) rfl ?_
  refine gg_iconst (v := 0) hG dX9_actsDone_2 (by decide) ?_
  refine gg_istore (L1 := [some (.ref 31), some (.ref 10), some (.long 0), none, some (.int 0)]) hG dX9_actsDone_3 (by decide) rfl ?_
  exact m_X9_actsDone_c5 hG h
theorem mt_X9_actsDone   {u : gg_M} {Q : Int64 → gg_M → Prop} (h : w_X9_actsDone  u Q) : gg_Mt 2 yX9_actsDone cX9_actsDone 5 (some .long) [.ref 31, .ref 10] u (gg_eJ Q) :=
  gg_intro (own := RX9) (by decide +kernel) rfl rfl (Nat.le_of_ble_eq_true rfl) (fun G hG => m_X9_actsDone hG  h)
