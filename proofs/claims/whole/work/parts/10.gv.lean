/-! X0_weightOf -/
def w_X0_weightOf_c51 (a1 : Int32) (a2 : Int32) (a4 : Int32) (z0 : Int32) (z1 : Int32) (u : gg_M) (k5 : Int32 × Int32 × gg_M → Prop) (Q : Int32 → gg_M → Prop) : Prop :=
  ∀ v1 : Int32, v1 = (z0 * z1) →
  k5 (v1, (a4 + 1), u)
set_option maxRecDepth 10000 in
theorem m_X0_weightOf_c51 {a1 : Int32} {a2 : Int32} {a4 : Int32} {z0 : Int32} {z1 : Int32} {u : gg_M} {k5 : Int32 × Int32 × gg_M → Prop} {G : gg_T} {Q : Int32 → gg_M → Prop} (hG : gg_Cl none cX0_weightOf 6 RX0 (some .int) 1 (gg_eI Q) G)  (h : w_X0_weightOf_c51 a1 a2 a4 z0 z1 u k5 Q)  (hk5 : ∀ s : Int32 × Int32 × gg_M, k5 s → G 5 [some (.ref 10), some (.int a1), some (.int a2), some (.int s.1), some (.int s.2.1), none] [] s.2.2) : G 51 [some (.ref 10), some (.int a1), some (.int a2), none, some (.int a4), none] [.int z1, .int z0] u := by
  unfold w_X0_weightOf_c51 at h
  refine gg_imul hG dX0_weightOf_51 ?_
  refine gg_ni (fun v1 e1 => ?_)
  replace h := h v1 e1
  refine gg_istore_n (L1 := [some (.ref 10), some (.int a1), some (.int a2), some (.int v1), some (.int a4), none]) hG dX0_weightOf_52 rfl (by decide) rfl ?_
  refine gg_iinc (v := (a4 + 1)) (L1 := [some (.ref 10), some (.int a1), some (.int a2), some (.int v1), some (.int (a4 + 1)), none]) hG dX0_weightOf_53 rfl rfl (by decide) rfl ?_
  refine gg_goto (tgt := 5) hG dX0_weightOf_56 (by decide) ?_
  exact hk5 _ h
def w_X0_weightOf_c28 (a1 : Int32) (a2 : Int32) (a3 : Int32) (a4 : Int32) (z0 : Int32) (u : gg_M) (k5 : Int32 × Int32 × gg_M → Prop) (Q : Int32 → gg_M → Prop) : Prop :=
  (¬ ((gu_ushr a1 a4) &&& 1) = 1 →
   w_X0_weightOf_c51 a1 a2 a4 a3 ((16 : Int32) - z0) u k5 Q) ∧
  (((gu_ushr a1 a4) &&& 1) = 1 →
   w_X0_weightOf_c51 a1 a2 a4 a3 z0 u k5 Q)
set_option maxRecDepth 10000 in
theorem m_X0_weightOf_c28 {a1 : Int32} {a2 : Int32} {a3 : Int32} {a4 : Int32} {z0 : Int32} {u : gg_M} {k5 : Int32 × Int32 × gg_M → Prop} {G : gg_T} {Q : Int32 → gg_M → Prop} (hG : gg_Cl none cX0_weightOf 6 RX0 (some .int) 1 (gg_eI Q) G)  (h : w_X0_weightOf_c28 a1 a2 a3 a4 z0 u k5 Q)  (hk5 : ∀ s : Int32 × Int32 × gg_M, k5 s → G 5 [some (.ref 10), some (.int a1), some (.int a2), some (.int s.1), some (.int s.2.1), none] [] s.2.2) : G 28 [some (.ref 10), some (.int a1), some (.int a2), some (.int a3), some (.int a4), none] [.int z0] u := by
  unfold w_X0_weightOf_c28 at h
  refine gg_istore (L1 := [some (.ref 10), some (.int a1), some (.int a2), some (.int a3), some (.int a4), some (.int z0)]) hG dX0_weightOf_28 (by decide) rfl ?_
  refine gg_iload_n hG dX0_weightOf_30 rfl rfl ?_
  refine gg_iload_n hG dX0_weightOf_31 rfl rfl ?_
  refine gg_iload hG dX0_weightOf_32 rfl ?_
  refine gg_iushr hG dX0_weightOf_34 ?_
  refine gg_iconst (v := 1) hG dX0_weightOf_35 (by decide) ?_
  refine gg_iand hG dX0_weightOf_36 ?_
  refine gg_iconst (v := 1) hG dX0_weightOf_37 (by decide) ?_
  refine gg_ic_ne (tgt := 46) hG dX0_weightOf_38 (by decide) (fun c2 => ?_) (fun c2 => ?_)
  · replace h := h.1 c2
    refine gg_bipush (v := 16) hG dX0_weightOf_46 (by decide) ?_
    refine gg_iload hG dX0_weightOf_48 rfl ?_
    refine gg_isub hG dX0_weightOf_50 ?_
    refine gg_mk hG [true, true, true, false, true, false] rfl ?_
    exact m_X0_weightOf_c51 hG h hk5
  · replace h := h.2 c2
    refine gg_iload hG dX0_weightOf_41 rfl ?_
    refine gg_goto (tgt := 51) hG dX0_weightOf_43 (by decide) ?_
    refine gg_mk hG [true, true, true, false, true, false] rfl ?_
    exact m_X0_weightOf_c51 hG h hk5
def b_X0_weightOf_c5 (a1 : Int32) (a2 : Int32) (a3 : Int32) (a4 : Int32) (u : gg_M)  (k5 : Int32 × Int32 × gg_M → Prop) (Q : Int32 → gg_M → Prop) : Prop :=
  (5 ≤ a4 →
   Q a3 u) ∧
  (¬ 5 ≤ a4 →
   (¬ a4 = a2 →
    vp_in a4 5 ∧
    w_X0_weightOf_c28 a1 a2 a3 a4 (u.1 11 a4.toNatClampNeg) u k5 Q) ∧
   (a4 = a2 →
    w_X0_weightOf_c28 a1 a2 a3 a4 0 u k5 Q))
set_option maxRecDepth 10000 in
theorem mb_X0_weightOf_c5 {a1 : Int32} {a2 : Int32} {a3 : Int32} {a4 : Int32} {u : gg_M}  {k5 : Int32 × Int32 × gg_M → Prop} {G : gg_T} {Q : Int32 → gg_M → Prop} (hG : gg_Cl none cX0_weightOf 6 RX0 (some .int) 1 (gg_eI Q) G)  (h : b_X0_weightOf_c5 a1 a2 a3 a4 u k5 Q)   (hk5 : ∀ s : Int32 × Int32 × gg_M, k5 s → G 5 [some (.ref 10), some (.int a1), some (.int a2), some (.int s.1), some (.int s.2.1), none] [] s.2.2) : G 5 [some (.ref 10), some (.int a1), some (.int a2), some (.int a3), some (.int a4), none] [] u := by
  unfold b_X0_weightOf_c5 at h
  refine gg_iload hG dX0_weightOf_5 rfl ?_
  refine gg_iconst (v := 5) hG dX0_weightOf_7 (by decide) ?_
  refine gg_ic_ge (tgt := 59) hG dX0_weightOf_8 (by decide) (fun c3 => ?_) (fun c3 => ?_)
  · replace h := h.1 c3
    refine gg_iload_n hG dX0_weightOf_59 rfl rfl ?_
    exact gg_iret hG dX0_weightOf_60 rfl rfl ⟨_, rfl, h⟩
  · replace h := h.2 c3
    refine gg_iload hG dX0_weightOf_11 rfl ?_
    refine gg_iload_n hG dX0_weightOf_13 rfl rfl ?_
    refine gg_ic_ne (tgt := 21) hG dX0_weightOf_14 (by decide) (fun c4 => ?_) (fun c4 => ?_)
    · replace h := h.1 c4
      refine gg_aload_n hG dX0_weightOf_21 rfl rfl ?_
      refine gg_get (v := .ref 11) hG dX0_weightOf_22 (by decide) rfl fl_RX0_9 rfl ?_
      refine gg_iload hG dX0_weightOf_25 rfl ?_
      obtain ⟨h5, h⟩ := h
      refine gg_iald (j := a4.toNatClampNeg) hG dX0_weightOf_27 (by decide) rfl h5 rfl ?_
      exact m_X0_weightOf_c28 hG h hk5
    · replace h := h.2 c4
      refine gg_iconst (v := 0) hG dX0_weightOf_17 (by decide) ?_
      refine gg_goto (tgt := 28) hG dX0_weightOf_18 (by decide) ?_
      exact m_X0_weightOf_c28 hG h hk5
def w_X0_weightOf_c5 (a1 : Int32) (a2 : Int32) (a3 : Int32) (a4 : Int32) (u : gg_M)  (Q : Int32 → gg_M → Prop) : Prop :=
  gg_loop (fun (s : Int32 × Int32 × gg_M) k5 => b_X0_weightOf_c5 a1 a2 s.1 s.2.1 s.2.2  k5 Q) (a3, a4, u)
set_option maxRecDepth 10000 in
theorem m_X0_weightOf_c5 {a1 : Int32} {a2 : Int32} {a3 : Int32} {a4 : Int32} {u : gg_M}  {G : gg_T} {Q : Int32 → gg_M → Prop} (hG : gg_Cl none cX0_weightOf 6 RX0 (some .int) 1 (gg_eI Q) G)  (h : w_X0_weightOf_c5 a1 a2 a3 a4 u  Q)   : G 5 [some (.ref 10), some (.int a1), some (.int a2), some (.int a3), some (.int a4), none] [] u :=
  gg_loop_use (P := fun s : Int32 × Int32 × gg_M => G 5 [some (.ref 10), some (.int a1), some (.int a2), some (.int s.1), some (.int s.2.1), none] [] s.2.2) h (fun s rc hb hr => mb_X0_weightOf_c5 hG  hb   hr)
def w_X0_weightOf (a1 : Int32) (a2 : Int32) (u : gg_M)  (Q : Int32 → gg_M → Prop) : Prop :=
  w_X0_weightOf_c5 a1 a2 1 0 u Q
set_option maxRecDepth 10000 in
theorem m_X0_weightOf {a1 : Int32} {a2 : Int32} {u : gg_M}  {G : gg_T} {Q : Int32 → gg_M → Prop} (hG : gg_Cl none cX0_weightOf 6 RX0 (some .int) 1 (gg_eI Q) G)  (h : w_X0_weightOf a1 a2 u  Q)   : G 0 [some (.ref 10), some (.int a1), some (.int a2), none, none, none] [] u := by
  unfold w_X0_weightOf at h
  refine gg_iconst (v := 1) hG dX0_weightOf_0 (by decide) ?_
  refine gg_istore_n (L1 := [some (.ref 10), some (.int a1), some (.int a2), some (.int 1), none, none]) hG dX0_weightOf_1 rfl (by decide) rfl ?_
  refine gg_iconst (v := 0) hG dX0_weightOf_2 (by decide) ?_
  refine gg_istore (L1 := [some (.ref 10), some (.int a1), some (.int a2), some (.int 1), some (.int 0), none]) hG dX0_weightOf_3 (by decide) rfl ?_
  exact m_X0_weightOf_c5 hG h
theorem mt_X0_weightOf {a1 : Int32} {a2 : Int32}  {u : gg_M} {Q : Int32 → gg_M → Prop} (h : w_X0_weightOf a1 a2 u Q) : gg_Mt 1 yX0_weightOf cX0_weightOf 6 (some .int) [.ref 10, .int a1, .int a2] u (gg_eI Q) :=
  gg_intro (own := RX0) (by decide +kernel) rfl rfl (Nat.le_of_ble_eq_true rfl) (fun G hG => m_X0_weightOf hG  h)
/-! X0_together -/
def b_X0_together_c4  (a1 : Int32) (a2 : Int32) (u : gg_M)  (k4 : Int32 × Int32 × gg_M → Prop) (Q : Int32 → gg_M → Prop) : Prop :=
  (5 ≤ a2 →
   Q a1 u) ∧
  (¬ 5 ≤ a2 →
   vp_in a2 5 ∧
   ∀ v3 : Int32, v3 = (a1 + (u.1 11 a2.toNatClampNeg)) →
   k4 (v3, (a2 + 1), u))
set_option maxRecDepth 10000 in
theorem mb_X0_together_c4  {a1 : Int32} {a2 : Int32} {u : gg_M}  {k4 : Int32 × Int32 × gg_M → Prop} {G : gg_T} {Q : Int32 → gg_M → Prop} (hG : gg_Cl none cX0_together 3 RX0 (some .int) 1 (gg_eI Q) G)  (h : b_X0_together_c4 a1 a2 u k4 Q)   (hk4 : ∀ s : Int32 × Int32 × gg_M, k4 s → G 4 [some (.ref 10), some (.int s.1), some (.int s.2.1)] [] s.2.2) : G 4 [some (.ref 10), some (.int a1), some (.int a2)] [] u := by
  unfold b_X0_together_c4 at h
  refine gg_iload_n hG dX0_together_4 rfl rfl ?_
  refine gg_iconst (v := 5) hG dX0_together_5 (by decide) ?_
  refine gg_ic_ge (tgt := 24) hG dX0_together_6 (by decide) (fun c1 => ?_) (fun c1 => ?_)
  · replace h := h.1 c1
    refine gg_iload_n hG dX0_together_24 rfl rfl ?_
    exact gg_iret hG dX0_together_25 rfl rfl ⟨_, rfl, h⟩
  · replace h := h.2 c1
    refine gg_iload_n hG dX0_together_9 rfl rfl ?_
    refine gg_aload_n hG dX0_together_10 rfl rfl ?_
    refine gg_get (v := .ref 11) hG dX0_together_11 (by decide) rfl fl_RX0_9 rfl ?_
    refine gg_iload_n hG dX0_together_14 rfl rfl ?_
    obtain ⟨h2, h⟩ := h
    refine gg_iald (j := a2.toNatClampNeg) hG dX0_together_15 (by decide) rfl h2 rfl ?_
    refine gg_iadd hG dX0_together_16 ?_
    refine gg_ni (fun v3 e3 => ?_)
    replace h := h v3 e3
    refine gg_istore_n (L1 := [some (.ref 10), some (.int v3), some (.int a2)]) hG dX0_together_17 rfl (by decide) rfl ?_
    refine gg_iinc (v := (a2 + 1)) (L1 := [some (.ref 10), some (.int v3), some (.int (a2 + 1))]) hG dX0_together_18 rfl rfl (by decide) rfl ?_
    refine gg_goto (tgt := 4) hG dX0_together_21 (by decide) ?_
    exact hk4 _ h
def w_X0_together_c4 (a1 : Int32) (a2 : Int32) (u : gg_M)  (Q : Int32 → gg_M → Prop) : Prop :=
  gg_loop (fun (s : Int32 × Int32 × gg_M) k4 => b_X0_together_c4  s.1 s.2.1 s.2.2  k4 Q) (a1, a2, u)
set_option maxRecDepth 10000 in
theorem m_X0_together_c4 {a1 : Int32} {a2 : Int32} {u : gg_M}  {G : gg_T} {Q : Int32 → gg_M → Prop} (hG : gg_Cl none cX0_together 3 RX0 (some .int) 1 (gg_eI Q) G)  (h : w_X0_together_c4 a1 a2 u  Q)   : G 4 [some (.ref 10), some (.int a1), some (.int a2)] [] u :=
  gg_loop_use (P := fun s : Int32 × Int32 × gg_M => G 4 [some (.ref 10), some (.int s.1), some (.int s.2.1)] [] s.2.2) h (fun s rc hb hr => mb_X0_together_c4 hG  hb   hr)
def w_X0_together  (u : gg_M)  (Q : Int32 → gg_M → Prop) : Prop :=
  w_X0_together_c4 0 0 u Q
set_option maxRecDepth 10000 in
theorem m_X0_together  {u : gg_M}  {G : gg_T} {Q : Int32 → gg_M → Prop} (hG : gg_Cl none cX0_together 3 RX0 (some .int) 1 (gg_eI Q) G)  (h : w_X0_together  u  Q)   : G 0 [some (.ref 10), none, none] [] u := by
  unfold w_X0_together at h
  refine gg_iconst (v := 0) hG dX0_together_0 (by decide) ?_
  refine gg_istore_n (L1 := [some (.ref 10), some (.int 0), none]) hG dX0_together_1 rfl (by decide) rfl ?_
  refine gg_iconst (v := 0) hG dX0_together_2 (by decide) ?_
  refine gg_istore_n (L1 := [some (.ref 10), some (.int 0), some (.int 0)]) hG dX0_together_3 rfl (by decide) rfl ?_
  exact m_X0_together_c4 hG h
theorem mt_X0_together   {u : gg_M} {Q : Int32 → gg_M → Prop} (h : w_X0_together  u Q) : gg_Mt 1 yX0_together cX0_together 3 (some .int) [.ref 10] u (gg_eI Q) :=
  gg_intro (own := RX0) (by decide +kernel) rfl rfl (Nat.le_of_ble_eq_true rfl) (fun G hG => m_X0_together hG  h)
/-! J7_fill_53178 -/
def b_J7_fill_53178_c5 (t0 : Nat) (a1 : Int32) (a3 : Int32) (a2 : Int32) (u : gg_M)  (k5 : Int32 × gg_M → Prop) (Q : gg_M → Prop) : Prop :=
  (a3 ≤ a2 →
   Q u) ∧
  (¬ a3 ≤ a2 →
   vp_in a2 (gg_al t0) ∧
   ∀ u3 : gg_M, u3 = gg_wI u t0 a2.toNatClampNeg a1 →
   k5 ((a2 + 1), u3))
set_option maxRecDepth 10000 in
theorem mb_J7_fill_53178_c5 {t0 : Nat} {a1 : Int32} {a3 : Int32} {a2 : Int32} {u : gg_M}  {k5 : Int32 × gg_M → Prop} {G : gg_T} {Q : gg_M → Prop} (hG : gg_Cl none cJ7_fill_53178 4 RJ7 none 1 (gg_eV Q) G) (kt0 : gg_kd t0 = 20) (h : b_J7_fill_53178_c5 t0 a1 a3 a2 u k5 Q)   (hk5 : ∀ s : Int32 × gg_M, k5 s → G 5 [some (.ref t0), some (.int a1), some (.int s.1), some (.int a3)] [] s.2) : G 5 [some (.ref t0), some (.int a1), some (.int a2), some (.int a3)] [] u := by
  unfold b_J7_fill_53178_c5 at h
  refine gg_iload_n hG dJ7_fill_53178_5 rfl rfl ?_
  refine gg_iload_n hG dJ7_fill_53178_6 rfl rfl ?_
  refine gg_ic_ge (tgt := 20) hG dJ7_fill_53178_7 (by decide) (fun c1 => ?_) (fun c1 => ?_)
  · replace h := h.1 c1
    exact gg_vret hG dJ7_fill_53178_20 rfl ⟨rfl, h⟩
  · replace h := h.2 c1
    refine gg_aload_n hG dJ7_fill_53178_10 rfl rfl ?_
    refine gg_iload_n hG dJ7_fill_53178_11 rfl rfl ?_
    refine gg_iload_n hG dJ7_fill_53178_12 rfl rfl ?_
    obtain ⟨h2, h⟩ := h
    refine gg_iast (j := a2.toNatClampNeg) hG dJ7_fill_53178_13 (gg_kd_lt kt0 (by decide)) kt0 h2 rfl ?_
    refine gg_nu (fun u3 eu3 => ?_)
    replace h := h u3 eu3
    refine gg_iinc (v := (a2 + 1)) (L1 := [some (.ref t0), some (.int a1), some (.int (a2 + 1)), some (.int a3)]) hG dJ7_fill_53178_14 rfl rfl (by decide) rfl ?_
    refine gg_goto (tgt := 5) hG dJ7_fill_53178_17 (by decide) ?_
    exact hk5 _ h
def w_J7_fill_53178_c5 (t0 : Nat) (a1 : Int32) (a2 : Int32) (a3 : Int32) (u : gg_M)  (Q : gg_M → Prop) : Prop :=
  gg_loop (fun (s : Int32 × gg_M) k5 => b_J7_fill_53178_c5 t0 a1 a3 s.1 s.2  k5 Q) (a2, u)
set_option maxRecDepth 10000 in
theorem m_J7_fill_53178_c5 {t0 : Nat} {a1 : Int32} {a2 : Int32} {a3 : Int32} {u : gg_M}  {G : gg_T} {Q : gg_M → Prop} (hG : gg_Cl none cJ7_fill_53178 4 RJ7 none 1 (gg_eV Q) G) (kt0 : gg_kd t0 = 20) (h : w_J7_fill_53178_c5 t0 a1 a2 a3 u  Q)   : G 5 [some (.ref t0), some (.int a1), some (.int a2), some (.int a3)] [] u :=
  gg_loop_use (P := fun s : Int32 × gg_M => G 5 [some (.ref t0), some (.int a1), some (.int s.1), some (.int a3)] [] s.2) h (fun s rc hb hr => mb_J7_fill_53178_c5 hG kt0 hb   hr)
def w_J7_fill_53178 (t0 : Nat) (a1 : Int32) (u : gg_M)  (Q : gg_M → Prop) : Prop :=
  w_J7_fill_53178_c5 t0 a1 0 (Int32.ofNat (gg_al t0)) u Q
set_option maxRecDepth 10000 in
theorem m_J7_fill_53178 {t0 : Nat} {a1 : Int32} {u : gg_M}  {G : gg_T} {Q : gg_M → Prop} (hG : gg_Cl none cJ7_fill_53178 4 RJ7 none 1 (gg_eV Q) G) (kt0 : gg_kd t0 = 20) (h : w_J7_fill_53178 t0 a1 u  Q)   : G 0 [some (.ref t0), some (.int a1), none, none] [] u := by
  unfold w_J7_fill_53178 at h
  refine gg_iconst (v := 0) hG dJ7_fill_53178_0 (by decide) ?_
  refine gg_istore_n (L1 := [some (.ref t0), some (.int a1), some (.int 0), none]) hG dJ7_fill_53178_1 rfl (by decide) rfl ?_
  refine gg_aload_n hG dJ7_fill_53178_2 rfl rfl ?_
  refine gg_alen hG dJ7_fill_53178_3 (gg_kd_lt kt0 (by decide)) kt0 rfl ?_
  refine gg_istore_n (L1 := [some (.ref t0), some (.int a1), some (.int 0), some (.int (Int32.ofNat (gg_al t0)))]) hG dJ7_fill_53178_4 rfl (by decide) rfl ?_
  exact m_J7_fill_53178_c5 hG kt0 h
theorem mt_J7_fill_53178 {t0 : Nat} {a1 : Int32} (kt0 : gg_kd t0 = 20) {u : gg_M} {Q : gg_M → Prop} (h : w_J7_fill_53178 t0 a1 u Q) : gg_Mt 1 yJ7_fill_53178 cJ7_fill_53178 4 none [.ref t0, .int a1] u (gg_eV Q) :=
  gg_intro (own := RJ7) (by decide +kernel) rfl rfl (Nat.le_of_ble_eq_true rfl) (fun G hG => m_J7_fill_53178 hG kt0 h)
/-! X10_isBelow -/
def w_X10_isBelow_c14 (z0 : Int32) (u : gg_M)  (Q : Int32 → gg_M → Prop) : Prop :=
  (z0 = 0 ∨ z0 = 1) ∧
  Q z0 u
set_option maxRecDepth 10000 in
theorem m_X10_isBelow_c14 {z0 : Int32} {u : gg_M}  {G : gg_T} {Q : Int32 → gg_M → Prop} (hG : gg_Cl none cX10_isBelow 2 RX10 (some .boolean) 1 (gg_eI Q) G)  (h : w_X10_isBelow_c14 z0 u  Q)   : G 14 [none, none] [.int z0] u := by
  unfold w_X10_isBelow_c14 at h
  obtain ⟨h1, h⟩ := h
  exact gg_iret hG dX10_isBelow_14 rfl (gg_nb h1).1 ⟨_, rfl, h⟩
def w_X10_isBelow_c13  (u : gg_M)  (Q : Int32 → gg_M → Prop) : Prop :=
  w_X10_isBelow_c14 0 u Q
set_option maxRecDepth 10000 in
theorem m_X10_isBelow_c13  {u : gg_M}  {G : gg_T} {Q : Int32 → gg_M → Prop} (hG : gg_Cl none cX10_isBelow 2 RX10 (some .boolean) 1 (gg_eI Q) G)  (h : w_X10_isBelow_c13  u  Q)   : G 13 [none, none] [] u := by
  unfold w_X10_isBelow_c13 at h
  refine gg_iconst (v := 0) hG dX10_isBelow_13 (by decide) ?_
  exact m_X10_isBelow_c14 hG h
def w_X10_isBelow (a0 : Int32) (a1 : Int32) (u : gg_M)  (Q : Int32 → gg_M → Prop) : Prop :=
  (a0 < 0 →
   w_X10_isBelow_c13 u Q) ∧
  (¬ a0 < 0 →
   (a1 ≤ a0 →
    w_X10_isBelow_c13 u Q) ∧
   (¬ a1 ≤ a0 →
    w_X10_isBelow_c14 1 u Q))
set_option maxRecDepth 10000 in
theorem m_X10_isBelow {a0 : Int32} {a1 : Int32} {u : gg_M}  {G : gg_T} {Q : Int32 → gg_M → Prop} (hG : gg_Cl none cX10_isBelow 2 RX10 (some .boolean) 1 (gg_eI Q) G)  (h : w_X10_isBelow a0 a1 u  Q)   : G 0 [some (.int a0), some (.int a1)] [] u := by
  unfold w_X10_isBelow at h
  refine gg_iload_n hG dX10_isBelow_0 rfl rfl ?_
  refine gg_if_lt (tgt := 13) hG dX10_isBelow_1 (by decide) (fun c2 => ?_) (fun c2 => ?_)
  · replace h := h.1 c2
    refine gg_mk hG [false, false] rfl ?_
    exact m_X10_isBelow_c13 hG h
  · replace h := h.2 c2
    refine gg_iload_n hG dX10_isBelow_4 rfl rfl ?_
    refine gg_iload_n hG dX10_isBelow_5 rfl rfl ?_
    refine gg_ic_ge (tgt := 13) hG dX10_isBelow_6 (by decide) (fun c3 => ?_) (fun c3 => ?_)
    · replace h := h.1 c3
      refine gg_mk hG [false, false] rfl ?_
      exact m_X10_isBelow_c13 hG h
    · replace h := h.2 c3
      refine gg_iconst (v := 1) hG dX10_isBelow_9 (by decide) ?_
      refine gg_goto (tgt := 14) hG dX10_isBelow_10 (by decide) ?_
      refine gg_mk hG [false, false] rfl ?_
      exact m_X10_isBelow_c14 hG h
theorem mt_X10_isBelow {a0 : Int32} {a1 : Int32}  {u : gg_M} {Q : Int32 → gg_M → Prop} (h : w_X10_isBelow a0 a1 u Q) : gg_Mt 1 yX10_isBelow cX10_isBelow 2 (some .boolean) [.int a0, .int a1] u (gg_eI Q) :=
  gg_intro (own := RX10) (by decide +kernel) rfl rfl (Nat.le_of_ble_eq_true rfl) (fun G hG => m_X10_isBelow hG  h)
/-! X2_actAt -/
def w_X2_actAt_c19 (z0 : Int32) (u : gg_M)  (Q : Int32 → gg_M → Prop) : Prop :=
  Q z0 u
set_option maxRecDepth 10000 in
theorem m_X2_actAt_c19 {z0 : Int32} {u : gg_M}  {G : gg_T} {Q : Int32 → gg_M → Prop} (hG : gg_Cl none cX2_actAt 2 RX2 (some .int) 2 (gg_eI Q) G)  (h : w_X2_actAt_c19 z0 u  Q)   : G 19 [none, none] [.int z0] u := by
  unfold w_X2_actAt_c19 at h
  exact gg_iret hG dX2_actAt_19 rfl rfl ⟨_, rfl, h⟩
def w_X2_actAt (a1 : Int32) (u : gg_M)  (Q : Int32 → gg_M → Prop) : Prop :=
  w_X10_isBelow a1 24 u (fun v2 u1 =>
  (v2 = 0 →
   w_X2_actAt_c19 (-1) u1 Q) ∧
  (¬ v2 = 0 →
   vp_in a1 24 ∧
   w_X2_actAt_c19 (u1.1 13 a1.toNatClampNeg) u1 Q))
set_option maxRecDepth 10000 in
theorem m_X2_actAt {a1 : Int32} {u : gg_M}  {G : gg_T} {Q : Int32 → gg_M → Prop} (hG : gg_Cl none cX2_actAt 2 RX2 (some .int) 2 (gg_eI Q) G)  (h : w_X2_actAt a1 u  Q)   : G 0 [some (.ref 12), some (.int a1)] [] u := by
  unfold w_X2_actAt at h
  refine gg_iload_n hG dX2_actAt_0 rfl rfl ?_
  refine gg_bipush (v := 24) hG dX2_actAt_1 (by decide) ?_
  refine gg_xsN (As := [.int a1, .int 24]) (st := []) hG dX2_actAt_3 ml_RX2_22 Y_X10_isBelow YS_X10_isBelow (mt_X10_isBelow h) rfl (by decide) (Nat.le_of_ble_eq_true rfl) rfl (gg_ki (fun v2 u1 h => ?_))
  refine gg_if_eq (tgt := 18) hG dX2_actAt_6 (by decide) (fun c3 => ?_) (fun c3 => ?_)
  · replace h := h.1 c3
    refine gg_iconst (v := (-1)) hG dX2_actAt_18 (by decide) ?_
    refine gg_mk hG [false, false] rfl ?_
    exact m_X2_actAt_c19 hG h
  · replace h := h.2 c3
    refine gg_aload_n hG dX2_actAt_9 rfl rfl ?_
    refine gg_get (v := .ref 13) hG dX2_actAt_10 (by decide) rfl fl_RX2_9 rfl ?_
    refine gg_iload_n hG dX2_actAt_13 rfl rfl ?_
    obtain ⟨h4, h⟩ := h
    refine gg_iald (j := a1.toNatClampNeg) hG dX2_actAt_14 (by decide) rfl h4 rfl ?_
    refine gg_goto (tgt := 19) hG dX2_actAt_15 (by decide) ?_
    refine gg_mk hG [false, false] rfl ?_
    exact m_X2_actAt_c19 hG h
theorem mt_X2_actAt {a1 : Int32}  {u : gg_M} {Q : Int32 → gg_M → Prop} (h : w_X2_actAt a1 u Q) : gg_Mt 2 yX2_actAt cX2_actAt 2 (some .int) [.ref 12, .int a1] u (gg_eI Q) :=
  gg_intro (own := RX2) (by decide +kernel) rfl rfl (Nat.le_of_ble_eq_true rfl) (fun G hG => m_X2_actAt hG  h)
/-! X2_signAt -/
def w_X2_signAt_c19 (z0 : Int32) (u : gg_M)  (Q : Int32 → gg_M → Prop) : Prop :=
  Q z0 u
set_option maxRecDepth 10000 in
theorem m_X2_signAt_c19 {z0 : Int32} {u : gg_M}  {G : gg_T} {Q : Int32 → gg_M → Prop} (hG : gg_Cl none cX2_signAt 2 RX2 (some .int) 2 (gg_eI Q) G)  (h : w_X2_signAt_c19 z0 u  Q)   : G 19 [none, none] [.int z0] u := by
  unfold w_X2_signAt_c19 at h
  exact gg_iret hG dX2_signAt_19 rfl rfl ⟨_, rfl, h⟩
def w_X2_signAt (a1 : Int32) (u : gg_M)  (Q : Int32 → gg_M → Prop) : Prop :=
  w_X10_isBelow a1 24 u (fun v2 u1 =>
  (v2 = 0 →
   w_X2_signAt_c19 (-1) u1 Q) ∧
  (¬ v2 = 0 →
   vp_in a1 24 ∧
   w_X2_signAt_c19 (u1.1 14 a1.toNatClampNeg) u1 Q))
set_option maxRecDepth 10000 in
theorem m_X2_signAt {a1 : Int32} {u : gg_M}  {G : gg_T} {Q : Int32 → gg_M → Prop} (hG : gg_Cl none cX2_signAt 2 RX2 (some .int) 2 (gg_eI Q) G)  (h : w_X2_signAt a1 u  Q)   : G 0 [some (.ref 12), some (.int a1)] [] u := by
  unfold w_X2_signAt at h
  refine gg_iload_n hG dX2_signAt_0 rfl rfl ?_
  refine gg_bipush (v := 24) hG dX2_signAt_1 (by decide) ?_
  refine gg_xsN (As := [.int a1, .int 24]) (st := []) hG dX2_signAt_3 ml_RX2_22 Y_X10_isBelow YS_X10_isBelow (mt_X10_isBelow h) rfl (by decide) (Nat.le_of_ble_eq_true rfl) rfl (gg_ki (fun v2 u1 h => ?_))
  refine gg_if_eq (tgt := 18) hG dX2_signAt_6 (by decide) (fun c3 => ?_) (fun c3 => ?_)
  · replace h := h.1 c3
    refine gg_iconst (v := (-1)) hG dX2_signAt_18 (by decide) ?_
    refine gg_mk hG [false, false] rfl ?_
    exact m_X2_signAt_c19 hG h
  · replace h := h.2 c3
    refine gg_aload_n hG dX2_signAt_9 rfl rfl ?_
    refine gg_get (v := .ref 14) hG dX2_signAt_10 (by decide) rfl fl_RX2_15 rfl ?_
    refine gg_iload_n hG dX2_signAt_13 rfl rfl ?_
    obtain ⟨h4, h⟩ := h
    refine gg_iald (j := a1.toNatClampNeg) hG dX2_signAt_14 (by decide) rfl h4 rfl ?_
    refine gg_goto (tgt := 19) hG dX2_signAt_15 (by decide) ?_
    refine gg_mk hG [false, false] rfl ?_
    exact m_X2_signAt_c19 hG h
theorem mt_X2_signAt {a1 : Int32}  {u : gg_M} {Q : Int32 → gg_M → Prop} (h : w_X2_signAt a1 u Q) : gg_Mt 2 yX2_signAt cX2_signAt 2 (some .int) [.ref 12, .int a1] u (gg_eI Q) :=
  gg_intro (own := RX2) (by decide +kernel) rfl rfl (Nat.le_of_ble_eq_true rfl) (fun G hG => m_X2_signAt hG  h)
/-! X7_begin -/
def w_X7_begin (t0 : Nat) (a2 : Int32) (u : gg_M)  (Q : gg_M → Prop) : Prop :=
  ∀ u1 : gg_M, u1 = gg_wI u t0 0 (u.1 7 5) →
  ∀ u2 : gg_M, u2 = gg_wI u1 t0 1 (u1.1 7 6) →
  ∀ u3 : gg_M, u3 = gg_wI u2 t0 2 0 →
  ∀ u4 : gg_M, u4 = gg_wI u3 t0 3 0 →
  ∀ u5 : gg_M, u5 = gg_wI u4 t0 4 0 →
  ∀ u6 : gg_M, u6 = gg_wI u5 t0 5 0 →
  ∀ u7 : gg_M, u7 = gg_wI u6 t0 6 a2 →
  ∀ u8 : gg_M, u8 = gg_wI u7 t0 7 0 →
  Q u8
set_option maxRecDepth 10000 in
theorem m_X7_begin {t0 : Nat} {a2 : Int32} {u : gg_M}  {G : gg_T} {Q : gg_M → Prop} (hG : gg_Cl none cX7_begin 3 RX7 none 1 (gg_eV Q) G) (kt0 : gg_kd t0 = 7) (h : w_X7_begin t0 a2 u  Q)   : G 0 [some (.ref t0), some (.ref 6), some (.int a2)] [] u := by
  unfold w_X7_begin at h
  refine gg_aload_n hG dX7_begin_0 rfl rfl ?_
  refine gg_aload_n hG dX7_begin_1 rfl rfl ?_
  refine gg_get (v := .ref 7) hG dX7_begin_2 (by decide) rfl fl_RX7_9 rfl ?_
  refine gg_iconst (v := 5) hG dX7_begin_5 (by decide) ?_
  refine gg_iald (j := 5) hG dX7_begin_6 (by decide) rfl (gg_vin (by decide +kernel)) (by decide) ?_
  refine gg_putI hG dX7_begin_7 (gg_kd_lt kt0 (by decide)) kt0 fp_RX7_15 rfl rfl rfl ?_
  refine gg_nu (fun u1 eu1 => ?_)
  replace h := h u1 eu1
  refine gg_aload_n hG dX7_begin_10 rfl rfl ?_
  refine gg_aload_n hG dX7_begin_11 rfl rfl ?_
  refine gg_get (v := .ref 7) hG dX7_begin_12 (by decide) rfl fl_RX7_9 rfl ?_
  refine gg_bipush (v := 6) hG dX7_begin_15 (by decide) ?_
  refine gg_iald (j := 6) hG dX7_begin_17 (by decide) rfl (gg_vin (by decide +kernel)) (by decide) ?_
  refine gg_putI hG dX7_begin_18 (gg_kd_lt kt0 (by decide)) kt0 fp_RX7_21 rfl rfl rfl ?_
  refine gg_nu (fun u2 eu2 => ?_)
  replace h := h u2 eu2
  refine gg_aload_n hG dX7_begin_21 rfl rfl ?_
  refine gg_iconst (v := 0) hG dX7_begin_22 (by decide) ?_
  refine gg_putI hG dX7_begin_23 (gg_kd_lt kt0 (by decide)) kt0 fp_RX7_24 rfl rfl rfl ?_
  refine gg_nu (fun u3 eu3 => ?_)
  replace h := h u3 eu3
  refine gg_aload_n hG dX7_begin_26 rfl rfl ?_
  refine gg_iconst (v := 0) hG dX7_begin_27 (by decide) ?_
  refine gg_putI hG dX7_begin_28 (gg_kd_lt kt0 (by decide)) kt0 fp_RX7_27 rfl rfl rfl ?_
  refine gg_nu (fun u4 eu4 => ?_)
  replace h := h u4 eu4
  refine gg_aload_n hG dX7_begin_31 rfl rfl ?_
  refine gg_iconst (v := 0) hG dX7_begin_32 (by decide) ?_
  refine gg_putI hG dX7_begin_33 (gg_kd_lt kt0 (by decide)) kt0 fp_RX7_30 rfl rfl rfl ?_
  refine gg_nu (fun u5 eu5 => ?_)
  replace h := h u5 eu5
  refine gg_aload_n hG dX7_begin_36 rfl rfl ?_
  refine gg_iconst (v := 0) hG dX7_begin_37 (by decide) ?_
  refine gg_putI hG dX7_begin_38 (gg_kd_lt kt0 (by decide)) kt0 fp_RX7_33 rfl rfl rfl ?_
  refine gg_nu (fun u6 eu6 => ?_)
  replace h := h u6 eu6
  refine gg_aload_n hG dX7_begin_41 rfl rfl ?_
  refine gg_iload_n hG dX7_begin_42 rfl rfl ?_
  refine gg_putI hG dX7_begin_43 (gg_kd_lt kt0 (by decide)) kt0 fp_RX7_36 rfl rfl rfl ?_
  refine gg_nu (fun u7 eu7 => ?_)
  replace h := h u7 eu7
  refine gg_aload_n hG dX7_begin_46 rfl rfl ?_
  refine gg_iconst (v := 0) hG dX7_begin_47 (by decide) ?_
  refine gg_putI hG dX7_begin_48 (gg_kd_lt kt0 (by decide)) kt0 fp_RX7_39 rfl (gg_nb (Or.inl rfl)).1 (gg_nb (Or.inl rfl)).2 ?_
  refine gg_nu (fun u8 eu8 => ?_)
  replace h := h u8 eu8
  exact gg_vret hG dX7_begin_51 rfl ⟨rfl, h⟩
theorem mt_X7_begin {t0 : Nat} {a2 : Int32} (kt0 : gg_kd t0 = 7) {u : gg_M} {Q : gg_M → Prop} (h : w_X7_begin t0 a2 u Q) : gg_Mt 1 yX7_begin cX7_begin 3 none [.ref t0, .ref 6, .int a2] u (gg_eV Q) :=
  gg_intro (own := RX7) (by decide +kernel) rfl rfl (Nat.le_of_ble_eq_true rfl) (fun G hG => m_X7_begin hG kt0 h)
/-! J9_max_7cf53 -/
def w_J9_max_7cf53_c10 (z0 : Int32) (u : gg_M)  (Q : Int32 → gg_M → Prop) : Prop :=
  Q z0 u
set_option maxRecDepth 10000 in
theorem m_J9_max_7cf53_c10 {z0 : Int32} {u : gg_M}  {G : gg_T} {Q : Int32 → gg_M → Prop} (hG : gg_Cl none cJ9_max_7cf53 2 RJ9 (some .int) 1 (gg_eI Q) G)  (h : w_J9_max_7cf53_c10 z0 u  Q)   : G 10 [none, none] [.int z0] u := by
  unfold w_J9_max_7cf53_c10 at h
  exact gg_iret hG dJ9_max_7cf53_10 rfl rfl ⟨_, rfl, h⟩
def w_J9_max_7cf53 (a0 : Int32) (a1 : Int32) (u : gg_M)  (Q : Int32 → gg_M → Prop) : Prop :=
  (a0 < a1 →
   w_J9_max_7cf53_c10 a1 u Q) ∧
  (¬ a0 < a1 →
   w_J9_max_7cf53_c10 a0 u Q)
set_option maxRecDepth 10000 in
theorem m_J9_max_7cf53 {a0 : Int32} {a1 : Int32} {u : gg_M}  {G : gg_T} {Q : Int32 → gg_M → Prop} (hG : gg_Cl none cJ9_max_7cf53 2 RJ9 (some .int) 1 (gg_eI Q) G)  (h : w_J9_max_7cf53 a0 a1 u  Q)   : G 0 [some (.int a0), some (.int a1)] [] u := by
  unfold w_J9_max_7cf53 at h
  refine gg_iload_n hG dJ9_max_7cf53_0 rfl rfl ?_
  refine gg_iload_n hG dJ9_max_7cf53_1 rfl rfl ?_
  refine gg_ic_lt (tgt := 9) hG dJ9_max_7cf53_2 (by decide) (fun c1 => ?_) (fun c1 => ?_)
  · replace h := h.1 c1
    refine gg_iload_n hG dJ9_max_7cf53_9 rfl rfl ?_
    refine gg_mk hG [false, false] rfl ?_
    exact m_J9_max_7cf53_c10 hG h
  · replace h := h.2 c1
    refine gg_iload_n hG dJ9_max_7cf53_5 rfl rfl ?_
    refine gg_goto (tgt := 10) hG dJ9_max_7cf53_6 (by decide) ?_
    refine gg_mk hG [false, false] rfl ?_
    exact m_J9_max_7cf53_c10 hG h
theorem mt_J9_max_7cf53 {a0 : Int32} {a1 : Int32}  {u : gg_M} {Q : Int32 → gg_M → Prop} (h : w_J9_max_7cf53 a0 a1 u Q) : gg_Mt 1 yJ9_max_7cf53 cJ9_max_7cf53 2 (some .int) [.int a0, .int a1] u (gg_eI Q) :=
  gg_intro (own := RJ9) (by decide +kernel) rfl rfl (Nat.le_of_ble_eq_true rfl) (fun G hG => m_J9_max_7cf53 hG  h)
/-! J9_min_7cf53 -/
def w_J9_min_7cf53_c10 (z0 : Int32) (u : gg_M)  (Q : Int32 → gg_M → Prop) : Prop :=
  Q z0 u
set_option maxRecDepth 10000 in
theorem m_J9_min_7cf53_c10 {z0 : Int32} {u : gg_M}  {G : gg_T} {Q : Int32 → gg_M → Prop} (hG : gg_Cl none cJ9_min_7cf53 2 RJ9 (some .int) 1 (gg_eI Q) G)  (h : w_J9_min_7cf53_c10 z0 u  Q)   : G 10 [none, none] [.int z0] u := by
  unfold w_J9_min_7cf53_c10 at h
  exact gg_iret hG dJ9_min_7cf53_10 rfl rfl ⟨_, rfl, h⟩
def w_J9_min_7cf53 (a0 : Int32) (a1 : Int32) (u : gg_M)  (Q : Int32 → gg_M → Prop) : Prop :=
  (a1 < a0 →
   w_J9_min_7cf53_c10 a1 u Q) ∧
  (¬ a1 < a0 →
   w_J9_min_7cf53_c10 a0 u Q)
set_option maxRecDepth 10000 in
theorem m_J9_min_7cf53 {a0 : Int32} {a1 : Int32} {u : gg_M}  {G : gg_T} {Q : Int32 → gg_M → Prop} (hG : gg_Cl none cJ9_min_7cf53 2 RJ9 (some .int) 1 (gg_eI Q) G)  (h : w_J9_min_7cf53 a0 a1 u  Q)   : G 0 [some (.int a0), some (.int a1)] [] u := by
  unfold w_J9_min_7cf53 at h
  refine gg_iload_n hG dJ9_min_7cf53_0 rfl rfl ?_
  refine gg_iload_n hG dJ9_min_7cf53_1 rfl rfl ?_
  refine gg_ic_gt (tgt := 9) hG dJ9_min_7cf53_2 (by decide) (fun c1 => ?_) (fun c1 => ?_)
  · replace h := h.1 c1
    refine gg_iload_n hG dJ9_min_7cf53_9 rfl rfl ?_
    refine gg_mk hG [false, false] rfl ?_
    exact m_J9_min_7cf53_c10 hG h
  · replace h := h.2 c1
    refine gg_iload_n hG dJ9_min_7cf53_5 rfl rfl ?_
    refine gg_goto (tgt := 10) hG dJ9_min_7cf53_6 (by decide) ?_
    refine gg_mk hG [false, false] rfl ?_
    exact m_J9_min_7cf53_c10 hG h
theorem mt_J9_min_7cf53 {a0 : Int32} {a1 : Int32}  {u : gg_M} {Q : Int32 → gg_M → Prop} (h : w_J9_min_7cf53 a0 a1 u Q) : gg_Mt 1 yJ9_min_7cf53 cJ9_min_7cf53 2 (some .int) [.int a0, .int a1] u (gg_eI Q) :=
  gg_intro (own := RJ9) (by decide +kernel) rfl rfl (Nat.le_of_ble_eq_true rfl) (fun G hG => m_J9_min_7cf53 hG  h)
/-! X7_dry -/
def w_X7_dry_c13 (t0 : Nat) (z0 : Int32) (u : gg_M)  (Q : Int32 → gg_M → Prop) : Prop :=
  ∀ u1 : gg_M, u1 = gg_wI u t0 3 0 →
  Q z0 u1
set_option maxRecDepth 10000 in
theorem m_X7_dry_c13 {t0 : Nat} {z0 : Int32} {u : gg_M}  {G : gg_T} {Q : Int32 → gg_M → Prop} (hG : gg_Cl none cX7_dry 2 RX7 (some .int) 1 (gg_eI Q) G) (kt0 : gg_kd t0 = 7) (h : w_X7_dry_c13 t0 z0 u  Q)   : G 13 [some (.ref t0), none] [.int z0] u := by
  unfold w_X7_dry_c13 at h
  refine gg_istore_n (L1 := [some (.ref t0), some (.int z0)]) hG dX7_dry_13 rfl (by decide) rfl ?_
  refine gg_aload_n hG dX7_dry_14 rfl rfl ?_
  refine gg_iconst (v := 0) hG dX7_dry_15 (by decide) ?_
  refine gg_putI hG dX7_dry_16 (gg_kd_lt kt0 (by decide)) kt0 fp_RX7_27 rfl rfl rfl ?_
  refine gg_nu (fun u1 eu1 => ?_)
  replace h := h u1 eu1
  refine gg_iload_n hG dX7_dry_19 rfl rfl ?_
  exact gg_iret hG dX7_dry_20 rfl rfl ⟨_, rfl, h⟩
def w_X7_dry (t0 : Nat) (u : gg_M)  (Q : Int32 → gg_M → Prop) : Prop :=
  ((u.1 t0 3) ≤ 0 →
   w_X7_dry_c13 t0 6 u Q) ∧
  (¬ (u.1 t0 3) ≤ 0 →
   w_X7_dry_c13 t0 5 u Q)
set_option maxRecDepth 10000 in
theorem m_X7_dry {t0 : Nat} {u : gg_M}  {G : gg_T} {Q : Int32 → gg_M → Prop} (hG : gg_Cl none cX7_dry 2 RX7 (some .int) 1 (gg_eI Q) G) (kt0 : gg_kd t0 = 7) (h : w_X7_dry t0 u  Q)   : G 0 [some (.ref t0), none] [] u := by
  unfold w_X7_dry at h
  refine gg_aload_n hG dX7_dry_0 rfl rfl ?_
  refine gg_get (v := .int (u.1 t0 3)) hG dX7_dry_1 (gg_kd_lt kt0 (by decide)) kt0 fl_RX7_27 (gg_fvI kt0 rfl) ?_
  refine gg_if_le (tgt := 11) hG dX7_dry_4 (by decide) (fun c2 => ?_) (fun c2 => ?_)
  · replace h := h.1 c2
    refine gg_bipush (v := 6) hG dX7_dry_11 (by decide) ?_
    exact m_X7_dry_c13 hG kt0 h
  · replace h := h.2 c2
    refine gg_iconst (v := 5) hG dX7_dry_7 (by decide) ?_
    refine gg_goto (tgt := 13) hG dX7_dry_8 (by decide) ?_
    exact m_X7_dry_c13 hG kt0 h
theorem mt_X7_dry {t0 : Nat} (kt0 : gg_kd t0 = 7) {u : gg_M} {Q : Int32 → gg_M → Prop} (h : w_X7_dry t0 u Q) : gg_Mt 1 yX7_dry cX7_dry 2 (some .int) [.ref t0] u (gg_eI Q) :=
  gg_intro (own := RX7) (by decide +kernel) rfl rfl (Nat.le_of_ble_eq_true rfl) (fun G hG => m_X7_dry hG kt0 h)
/-! X7_tend -/
def w_X7_tend (t0 : Nat) (a2 : Int32) (u : gg_M)  (Q : Int32 → gg_M → Prop) : Prop :=
  (a2 = 4 →
   w_J9_max_7cf53 0 ((u.1 t0 3) - 4) u (fun v3 u2 =>
   ∀ u4 : gg_M, u4 = gg_wI u2 t0 3 v3 →
   w_J9_max_7cf53 0 ((u4.1 t0 4) - 1) u4 (fun v6 u5 =>
   ∀ u7 : gg_M, u7 = gg_wI u5 t0 4 v6 →
   w_J9_min_7cf53 (u7.1 7 5) ((u7.1 t0 0) + 1) u7 (fun v9 u8 =>
   ∀ u10 : gg_M, u10 = gg_wI u8 t0 0 v9 →
   Q 0 u10)))) ∧
  (a2 = 5 →
   w_X7_dry t0 u (fun v13 u12 =>
   Q v13 u12)) ∧
  (a2 = 6 →
   w_J9_min_7cf53 20 ((u.1 t0 4) + 6) u (fun v16 u15 =>
   ∀ u17 : gg_M, u17 = gg_wI u15 t0 4 v16 →
   Q 0 u17)) ∧
  (a2 = 7 →
   ∀ u19 : gg_M, u19 = gg_wI u t0 5 5 →
   Q 0 u19) ∧
  (a2 = 8 →
   ∀ u21 : gg_M, u21 = gg_wI u t0 6 ((u.1 t0 6) &&& (-3)) →
   Q 0 u21) ∧
  (a2 = 9 →
   ∀ u23 : gg_M, u23 = gg_wI u t0 6 ((u.1 t0 6) &&& (-9)) →
   Q 0 u23) ∧
  ((a2.toInt < 4 ∨ 9 < a2.toInt) →
   Q 4 u)
set_option maxRecDepth 10000 in
theorem m_X7_tend {t0 : Nat} {a2 : Int32} {u : gg_M}  {G : gg_T} {Q : Int32 → gg_M → Prop} (hG : gg_Cl none cX7_tend 3 RX7 (some .int) 2 (gg_eI Q) G) (kt0 : gg_kd t0 = 7) (h : w_X7_tend t0 a2 u  Q)   : G 0 [some (.ref t0), some (.ref 6), some (.int a2)] [] u := by
  unfold w_X7_tend at h
  refine gg_iload_n hG dX7_tend_0 rfl rfl ?_
  by_cases c1 : a2 = 4
  · refine gg_tabIn (off := 39) (tgt := 40) hG dX7_tend_1 (by rw [c1]; decide) (by rw [c1]; decide) (by rw [c1]; decide) (by decide) ?_
    replace h := h.1 c1
    refine gg_aload_n hG dX7_tend_40 rfl rfl ?_
    refine gg_iconst (v := 0) hG dX7_tend_41 (by decide) ?_
    refine gg_aload_n hG dX7_tend_42 rfl rfl ?_
    refine gg_get (v := .int (u.1 t0 3)) hG dX7_tend_43 (gg_kd_lt kt0 (by decide)) kt0 fl_RX7_27 (gg_fvI kt0 rfl) ?_
    refine gg_iconst (v := 4) hG dX7_tend_46 (by decide) ?_
    refine gg_isub hG dX7_tend_47 ?_
    refine gg_xs (As := [.int 0, .int ((u.1 t0 3) - 4)]) (st := [.ref t0]) hG dX7_tend_48 ml_RX7_64 Y_J9_max_7cf53 YS_J9_max_7cf53 (mt_J9_max_7cf53 h) rfl (by decide) (Nat.le_of_ble_eq_true rfl) rfl (gg_ki (fun v3 u2 h => ?_))
    refine gg_putI hG dX7_tend_51 (gg_kd_lt kt0 (by decide)) kt0 fp_RX7_27 rfl rfl rfl ?_
    refine gg_nu (fun u4 eu4 => ?_)
    replace h := h u4 eu4
    refine gg_aload_n hG dX7_tend_54 rfl rfl ?_
    refine gg_iconst (v := 0) hG dX7_tend_55 (by decide) ?_
    refine gg_aload_n hG dX7_tend_56 rfl rfl ?_
    refine gg_get (v := .int (u4.1 t0 4)) hG dX7_tend_57 (gg_kd_lt kt0 (by decide)) kt0 fl_RX7_30 (gg_fvI kt0 rfl) ?_
    refine gg_iconst (v := 1) hG dX7_tend_60 (by decide) ?_
    refine gg_isub hG dX7_tend_61 ?_
    refine gg_xs (As := [.int 0, .int ((u4.1 t0 4) - 1)]) (st := [.ref t0]) hG dX7_tend_62 ml_RX7_64 Y_J9_max_7cf53 YS_J9_max_7cf53 (mt_J9_max_7cf53 h) rfl (by decide) (Nat.le_of_ble_eq_true rfl) rfl (gg_ki (fun v6 u5 h => ?_))
    refine gg_putI hG dX7_tend_65 (gg_kd_lt kt0 (by decide)) kt0 fp_RX7_30 rfl rfl rfl ?_
    refine gg_nu (fun u7 eu7 => ?_)
    replace h := h u7 eu7
    refine gg_aload_n hG dX7_tend_68 rfl rfl ?_
    refine gg_aload_n hG dX7_tend_69 rfl rfl ?_
    refine gg_get (v := .ref 7) hG dX7_tend_70 (by decide) rfl fl_RX7_9 rfl ?_
    refine gg_iconst (v := 5) hG dX7_tend_73 (by decide) ?_
    refine gg_iald (j := 5) hG dX7_tend_74 (by decide) rfl (gg_vin (by decide +kernel)) (by decide) ?_
    refine gg_aload_n hG dX7_tend_75 rfl rfl ?_
    refine gg_get (v := .int (u7.1 t0 0)) hG dX7_tend_76 (gg_kd_lt kt0 (by decide)) kt0 fl_RX7_15 (gg_fvI kt0 rfl) ?_
    refine gg_iconst (v := 1) hG dX7_tend_79 (by decide) ?_
    refine gg_iadd hG dX7_tend_80 ?_
    refine gg_xs (As := [.int (u7.1 7 5), .int ((u7.1 t0 0) + 1)]) (st := [.ref t0]) hG dX7_tend_81 ml_RX7_70 Y_J9_min_7cf53 YS_J9_min_7cf53 (mt_J9_min_7cf53 h) rfl (by decide) (Nat.le_of_ble_eq_true rfl) rfl (gg_ki (fun v9 u8 h => ?_))
    refine gg_putI hG dX7_tend_84 (gg_kd_lt kt0 (by decide)) kt0 fp_RX7_15 rfl rfl rfl ?_
    refine gg_nu (fun u10 eu10 => ?_)
    replace h := h u10 eu10
    refine gg_iconst (v := 0) hG dX7_tend_87 (by decide) ?_
    exact gg_iret hG dX7_tend_88 rfl rfl ⟨_, rfl, h⟩
  by_cases c11 : a2 = 5
  · refine gg_tabIn (off := 88) (tgt := 89) hG dX7_tend_1 (by rw [c11]; decide) (by rw [c11]; decide) (by rw [c11]; decide) (by decide) ?_
    replace h := h.2.1 c11
    refine gg_aload_n hG dX7_tend_89 rfl rfl ?_
    refine gg_xv (As := []) (st := []) hG dX7_tend_90 ml_RX7_73 Y_X7_dry YV_X7_dry (gg_kd_lt kt0 (by decide)) (gg_rcv kt0 rfl) (mt_X7_dry kt0 h) rfl (by decide) (Nat.le_of_ble_eq_true rfl) rfl (gg_ki (fun v13 u12 h => ?_))
    exact gg_iret hG dX7_tend_93 rfl rfl ⟨_, rfl, h⟩
  by_cases c14 : a2 = 6
  · refine gg_tabIn (off := 93) (tgt := 94) hG dX7_tend_1 (by rw [c14]; decide) (by rw [c14]; decide) (by rw [c14]; decide) (by decide) ?_
    replace h := h.2.2.1 c14
    refine gg_aload_n hG dX7_tend_94 rfl rfl ?_
    refine gg_bipush (v := 20) hG dX7_tend_95 (by decide) ?_
    refine gg_aload_n hG dX7_tend_97 rfl rfl ?_
    refine gg_get (v := .int (u.1 t0 4)) hG dX7_tend_98 (gg_kd_lt kt0 (by decide)) kt0 fl_RX7_30 (gg_fvI kt0 rfl) ?_
    refine gg_bipush (v := 6) hG dX7_tend_101 (by decide) ?_
    refine gg_iadd hG dX7_tend_103 ?_
    refine gg_xs (As := [.int 20, .int ((u.1 t0 4) + 6)]) (st := [.ref t0]) hG dX7_tend_104 ml_RX7_70 Y_J9_min_7cf53 YS_J9_min_7cf53 (mt_J9_min_7cf53 h) rfl (by decide) (Nat.le_of_ble_eq_true rfl) rfl (gg_ki (fun v16 u15 h => ?_))
    refine gg_putI hG dX7_tend_107 (gg_kd_lt kt0 (by decide)) kt0 fp_RX7_30 rfl rfl rfl ?_
    refine gg_nu (fun u17 eu17 => ?_)
    replace h := h u17 eu17
    refine gg_iconst (v := 0) hG dX7_tend_110 (by decide) ?_
    exact gg_iret hG dX7_tend_111 rfl rfl ⟨_, rfl, h⟩
  by_cases c18 : a2 = 7
  · refine gg_tabIn (off := 111) (tgt := 112) hG dX7_tend_1 (by rw [c18]; decide) (by rw [c18]; decide) (by rw [c18]; decide) (by decide) ?_
    replace h := h.2.2.2.1 c18
    refine gg_aload_n hG dX7_tend_112 rfl rfl ?_
    refine gg_iconst (v := 5) hG dX7_tend_113 (by decide) ?_
    refine gg_putI hG dX7_tend_114 (gg_kd_lt kt0 (by decide)) kt0 fp_RX7_33 rfl rfl rfl ?_
    refine gg_nu (fun u19 eu19 => ?_)
    replace h := h u19 eu19
    refine gg_iconst (v := 0) hG dX7_tend_117 (by decide) ?_
    exact gg_iret hG dX7_tend_118 rfl rfl ⟨_, rfl, h⟩
  by_cases c20 : a2 = 8
  · refine gg_tabIn (off := 118) (tgt := 119) hG dX7_tend_1 (by rw [c20]; decide) (by rw [c20]; decide) (by rw [c20]; decide) (by decide) ?_
    replace h := h.2.2.2.2.1 c20
    refine gg_aload_n hG dX7_tend_119 rfl rfl ?_
    refine gg_dup hG dX7_tend_120 rfl ?_
    refine gg_get (v := .int (u.1 t0 6)) hG dX7_tend_121 (gg_kd_lt kt0 (by decide)) kt0 fl_RX7_36 (gg_fvI kt0 rfl) ?_
    refine gg_bipush (v := (-3)) hG dX7_tend_124 (by decide) ?_
    refine gg_iand hG dX7_tend_126 ?_
    refine gg_putI hG dX7_tend_127 (gg_kd_lt kt0 (by decide)) kt0 fp_RX7_36 rfl rfl rfl ?_
    refine gg_nu (fun u21 eu21 => ?_)
    replace h := h u21 eu21
    refine gg_iconst (v := 0) hG dX7_tend_130 (by decide) ?_
    exact gg_iret hG dX7_tend_131 rfl rfl ⟨_, rfl, h⟩
  by_cases c22 : a2 = 9
  · refine gg_tabIn (off := 131) (tgt := 132) hG dX7_tend_1 (by rw [c22]; decide) (by rw [c22]; decide) (by rw [c22]; decide) (by decide) ?_
    replace h := h.2.2.2.2.2.1 c22
    refine gg_aload_n hG dX7_tend_132 rfl rfl ?_
    refine gg_dup hG dX7_tend_133 rfl ?_
    refine gg_get (v := .int (u.1 t0 6)) hG dX7_tend_134 (gg_kd_lt kt0 (by decide)) kt0 fl_RX7_36 (gg_fvI kt0 rfl) ?_
    refine gg_bipush (v := (-9)) hG dX7_tend_137 (by decide) ?_
    refine gg_iand hG dX7_tend_139 ?_
    refine gg_putI hG dX7_tend_140 (gg_kd_lt kt0 (by decide)) kt0 fp_RX7_36 rfl rfl rfl ?_
    refine gg_nu (fun u23 eu23 => ?_)
    replace h := h u23 eu23
    refine gg_iconst (v := 0) hG dX7_tend_143 (by decide) ?_
    exact gg_iret hG dX7_tend_144 rfl rfl ⟨_, rfl, h⟩
  have hsw : a2.toInt < 4 ∨ 9 < a2.toInt := by
    have nc1 := lv_neT (a := 4) c1 (by decide)
    have nc11 := lv_neT (a := 5) c11 (by decide)
    have nc14 := lv_neT (a := 6) c14 (by decide)
    have nc18 := lv_neT (a := 7) c18 (by decide)
    have nc20 := lv_neT (a := 8) c20 (by decide)
    have nc22 := lv_neT (a := 9) c22 (by decide)
    omega
  refine gg_tabOut (tgt := 145) hG dX7_tend_1 hsw (by decide) ?_
  replace h := h.2.2.2.2.2.2 hsw
  refine gg_iconst (v := 4) hG dX7_tend_145 (by decide) ?_
  exact gg_iret hG dX7_tend_146 rfl rfl ⟨_, rfl, h⟩
theorem mt_X7_tend {t0 : Nat} {a2 : Int32} (kt0 : gg_kd t0 = 7) {u : gg_M} {Q : Int32 → gg_M → Prop} (h : w_X7_tend t0 a2 u Q) : gg_Mt 2 yX7_tend cX7_tend 3 (some .int) [.ref t0, .ref 6, .int a2] u (gg_eI Q) :=
  gg_intro (own := RX7) (by decide +kernel) rfl rfl (Nat.le_of_ble_eq_true rfl) (fun G hG => m_X7_tend hG kt0 h)
/-! X7_signOf -/
def w_X7_signOf_c176 (z0 : Int32) (u : gg_M)  (Q : Int32 → gg_M → Prop) : Prop :=
  Q z0 u
set_option maxRecDepth 10000 in
theorem m_X7_signOf_c176 {z0 : Int32} {u : gg_M}  {G : gg_T} {Q : Int32 → gg_M → Prop} (hG : gg_Cl none cX7_signOf 6 RX7 (some .int) 1 (gg_eI Q) G)  (h : w_X7_signOf_c176 z0 u  Q)   : G 176 [none, none, none, none, none, none] [.int z0] u := by
  unfold w_X7_signOf_c176 at h
  exact gg_iret hG dX7_signOf_176 rfl rfl ⟨_, rfl, h⟩
def w_X7_signOf_c175  (u : gg_M)  (Q : Int32 → gg_M → Prop) : Prop :=
  w_X7_signOf_c176 0 u Q
set_option maxRecDepth 10000 in
theorem m_X7_signOf_c175  {u : gg_M}  {G : gg_T} {Q : Int32 → gg_M → Prop} (hG : gg_Cl none cX7_signOf 6 RX7 (some .int) 1 (gg_eI Q) G)  (h : w_X7_signOf_c175  u  Q)   : G 175 [none, none, none, none, none, none] [] u := by
  unfold w_X7_signOf_c175 at h
  refine gg_iconst (v := 0) hG dX7_signOf_175 (by decide) ?_
  exact m_X7_signOf_c176 hG h
def w_X7_signOf_c149 (a2 : Int32) (a3 : Int32) (a4 : Int32) (u : gg_M)  (Q : Int32 → gg_M → Prop) : Prop :=
  (a2 < 3 →
   w_X7_signOf_c175 u Q) ∧
  (¬ a2 < 3 →
   (10 < a2 →
    w_X7_signOf_c175 u Q) ∧
   (¬ 10 < a2 →
    (a3 < 3 →
     w_X7_signOf_c175 u Q) ∧
    (¬ a3 < 3 →
     (a4 < 4 →
      w_X7_signOf_c175 u Q) ∧
     (¬ a4 < 4 →
      w_X7_signOf_c176 1 u Q))))
set_option maxRecDepth 10000 in
theorem m_X7_signOf_c149 {a2 : Int32} {a3 : Int32} {a4 : Int32} {u : gg_M}  {G : gg_T} {Q : Int32 → gg_M → Prop} (hG : gg_Cl none cX7_signOf 6 RX7 (some .int) 1 (gg_eI Q) G)  (h : w_X7_signOf_c149 a2 a3 a4 u  Q)   : G 149 [none, none, some (.int a2), some (.int a3), some (.int a4), none] [] u := by
  unfold w_X7_signOf_c149 at h
  refine gg_iload_n hG dX7_signOf_149 rfl rfl ?_
  refine gg_iconst (v := 3) hG dX7_signOf_150 (by decide) ?_
  refine gg_ic_lt (tgt := 175) hG dX7_signOf_151 (by decide) (fun c1 => ?_) (fun c1 => ?_)
  · replace h := h.1 c1
    refine gg_mk hG [false, false, false, false, false, false] rfl ?_
    exact m_X7_signOf_c175 hG h
  · replace h := h.2 c1
    refine gg_iload_n hG dX7_signOf_154 rfl rfl ?_
    refine gg_bipush (v := 10) hG dX7_signOf_155 (by decide) ?_
    refine gg_ic_gt (tgt := 175) hG dX7_signOf_157 (by decide) (fun c2 => ?_) (fun c2 => ?_)
    · replace h := h.1 c2
      refine gg_mk hG [false, false, false, false, false, false] rfl ?_
      exact m_X7_signOf_c175 hG h
    · replace h := h.2 c2
      refine gg_iload_n hG dX7_signOf_160 rfl rfl ?_
      refine gg_iconst (v := 3) hG dX7_signOf_161 (by decide) ?_
      refine gg_ic_lt (tgt := 175) hG dX7_signOf_162 (by decide) (fun c3 => ?_) (fun c3 => ?_)
      · replace h := h.1 c3
        refine gg_mk hG [false, false, false, false, false, false] rfl ?_
        exact m_X7_signOf_c175 hG h
      · replace h := h.2 c3
        refine gg_iload hG dX7_signOf_165 rfl ?_
        refine gg_iconst (v := 4) hG dX7_signOf_167 (by decide) ?_
        refine gg_ic_lt (tgt := 175) hG dX7_signOf_168 (by decide) (fun c4 => ?_) (fun c4 => ?_)
        · replace h := h.1 c4
          refine gg_mk hG [false, false, false, false, false, false] rfl ?_
          exact m_X7_signOf_c175 hG h
        · replace h := h.2 c4
          refine gg_iconst (v := 1) hG dX7_signOf_171 (by decide) ?_
          refine gg_goto (tgt := 176) hG dX7_signOf_172 (by decide) ?_
          refine gg_mk hG [false, false, false, false, false, false] rfl ?_
          exact m_X7_signOf_c176 hG h
def w_X7_signOf_c148 (z0 : Int32) (u : gg_M)  (Q : Int32 → gg_M → Prop) : Prop :=
  Q z0 u
set_option maxRecDepth 10000 in
theorem m_X7_signOf_c148 {z0 : Int32} {u : gg_M}  {G : gg_T} {Q : Int32 → gg_M → Prop} (hG : gg_Cl none cX7_signOf 6 RX7 (some .int) 1 (gg_eI Q) G)  (h : w_X7_signOf_c148 z0 u  Q)   : G 148 [none, none, none, none, none, none] [.int z0] u := by
  unfold w_X7_signOf_c148 at h
  exact gg_iret hG dX7_signOf_148 rfl rfl ⟨_, rfl, h⟩
def w_X7_signOf_c100 (a2 : Int32) (a3 : Int32) (a4 : Int32) (z0 : Int32) (z1 : Int32) (u : gg_M)  (Q : Int32 → gg_M → Prop) : Prop :=
  ∀ v5 : Int32, v5 = (z0 - z1) →
  (a2 < 4 →
   w_X7_signOf_c149 a2 a3 a4 u Q) ∧
  (¬ a2 < 4 →
   (9 < a2 →
    w_X7_signOf_c149 a2 a3 a4 u Q) ∧
   (¬ 9 < a2 →
    (a3 < 4 →
     w_X7_signOf_c149 a2 a3 a4 u Q) ∧
    (¬ a3 < 4 →
     (a4 < 5 →
      w_X7_signOf_c149 a2 a3 a4 u Q) ∧
     (¬ a4 < 5 →
      (v5 ≤ 13 →
       (7 ≤ v5 →
        w_X7_signOf_c148 2 u Q) ∧
       (¬ 7 ≤ v5 →
        w_X7_signOf_c148 1 u Q)) ∧
      (¬ v5 ≤ 13 →
       w_X7_signOf_c148 3 u Q)))))
set_option maxRecDepth 10000 in
theorem m_X7_signOf_c100 {a2 : Int32} {a3 : Int32} {a4 : Int32} {z0 : Int32} {z1 : Int32} {u : gg_M}  {G : gg_T} {Q : Int32 → gg_M → Prop} (hG : gg_Cl none cX7_signOf 6 RX7 (some .int) 1 (gg_eI Q) G)  (h : w_X7_signOf_c100 a2 a3 a4 z0 z1 u  Q)   : G 100 [none, none, some (.int a2), some (.int a3), some (.int a4), none] [.int z1, .int z0] u := by
  unfold w_X7_signOf_c100 at h
  refine gg_isub hG dX7_signOf_100 ?_
  refine gg_ni (fun v5 e5 => ?_)
  replace h := h v5 e5
  refine gg_istore (L1 := [none, none, some (.int a2), some (.int a3), some (.int a4), some (.int v5)]) hG dX7_signOf_101 (by decide) rfl ?_
  refine gg_iload_n hG dX7_signOf_103 rfl rfl ?_
  refine gg_iconst (v := 4) hG dX7_signOf_104 (by decide) ?_
  refine gg_ic_lt (tgt := 149) hG dX7_signOf_105 (by decide) (fun c6 => ?_) (fun c6 => ?_)
  · replace h := h.1 c6
    refine gg_mk hG [false, false, true, true, true, false] rfl ?_
    exact m_X7_signOf_c149 hG h
  · replace h := h.2 c6
    refine gg_iload_n hG dX7_signOf_108 rfl rfl ?_
    refine gg_bipush (v := 9) hG dX7_signOf_109 (by decide) ?_
    refine gg_ic_gt (tgt := 149) hG dX7_signOf_111 (by decide) (fun c7 => ?_) (fun c7 => ?_)
    · replace h := h.1 c7
      refine gg_mk hG [false, false, true, true, true, false] rfl ?_
      exact m_X7_signOf_c149 hG h
    · replace h := h.2 c7
      refine gg_iload_n hG dX7_signOf_114 rfl rfl ?_
      refine gg_iconst (v := 4) hG dX7_signOf_115 (by decide) ?_
      refine gg_ic_lt (tgt := 149) hG dX7_signOf_116 (by decide) (fun c8 => ?_) (fun c8 => ?_)
      · replace h := h.1 c8
        refine gg_mk hG [false, false, true, true, true, false] rfl ?_
        exact m_X7_signOf_c149 hG h
      · replace h := h.2 c8
        refine gg_iload hG dX7_signOf_119 rfl ?_
        refine gg_iconst (v := 5) hG dX7_signOf_121 (by decide) ?_
        refine gg_ic_lt (tgt := 149) hG dX7_signOf_122 (by decide) (fun c9 => ?_) (fun c9 => ?_)
        · replace h := h.1 c9
          refine gg_mk hG [false, false, true, true, true, false] rfl ?_
          exact m_X7_signOf_c149 hG h
        · replace h := h.2 c9
          refine gg_iload hG dX7_signOf_125 rfl ?_
          refine gg_bipush (v := 13) hG dX7_signOf_127 (by decide) ?_
          refine gg_ic_le (tgt := 136) hG dX7_signOf_129 (by decide) (fun c10 => ?_) (fun c10 => ?_)
          · replace h := h.1 c10
            refine gg_iload hG dX7_signOf_136 rfl ?_
            refine gg_bipush (v := 7) hG dX7_signOf_138 (by decide) ?_
            refine gg_ic_ge (tgt := 147) hG dX7_signOf_140 (by decide) (fun c11 => ?_) (fun c11 => ?_)
            · replace h := h.1 c11
              refine gg_iconst (v := 2) hG dX7_signOf_147 (by decide) ?_
              refine gg_mk hG [false, false, false, false, false, false] rfl ?_
              exact m_X7_signOf_c148 hG h
            · replace h := h.2 c11
              refine gg_iconst (v := 1) hG dX7_signOf_143 (by decide) ?_
              refine gg_goto (tgt := 148) hG dX7_signOf_144 (by decide) ?_
              refine gg_mk hG [false, false, false, false, false, false] rfl ?_
              exact m_X7_signOf_c148 hG h
          · replace h := h.2 c10
            refine gg_iconst (v := 3) hG dX7_signOf_132 (by decide) ?_
            refine gg_goto (tgt := 148) hG dX7_signOf_133 (by decide) ?_
            refine gg_mk hG [false, false, false, false, false, false] rfl ?_
            exact m_X7_signOf_c148 hG h
def w_X7_signOf_c79 (t0 : Nat) (a2 : Int32) (a3 : Int32) (a5 : Int32) (z0 : Int32) (z1 : Int32) (u : gg_M)  (Q : Int32 → gg_M → Prop) : Prop :=
  ∀ v12 : Int32, v12 = (z0 - z1) →
  (((u.1 t0 6) &&& 8) = 0 →
   w_X7_signOf_c100 a2 a3 v12 a5 0 u Q) ∧
  (¬ ((u.1 t0 6) &&& 8) = 0 →
   w_X7_signOf_c100 a2 a3 v12 a5 6 u Q)
set_option maxRecDepth 10000 in
theorem m_X7_signOf_c79 {t0 : Nat} {a2 : Int32} {a3 : Int32} {a5 : Int32} {z0 : Int32} {z1 : Int32} {u : gg_M}  {G : gg_T} {Q : Int32 → gg_M → Prop} (hG : gg_Cl none cX7_signOf 6 RX7 (some .int) 1 (gg_eI Q) G) (kt0 : gg_kd t0 = 7) (h : w_X7_signOf_c79 t0 a2 a3 a5 z0 z1 u  Q)   : G 79 [some (.ref t0), none, some (.int a2), some (.int a3), none, some (.int a5)] [.int z1, .int z0] u := by
  unfold w_X7_signOf_c79 at h
  refine gg_isub hG dX7_signOf_79 ?_
  refine gg_ni (fun v12 e12 => ?_)
  replace h := h v12 e12
  refine gg_istore (L1 := [some (.ref t0), none, some (.int a2), some (.int a3), some (.int v12), some (.int a5)]) hG dX7_signOf_80 (by decide) rfl ?_
  refine gg_iload hG dX7_signOf_82 rfl ?_
  refine gg_aload_n hG dX7_signOf_84 rfl rfl ?_
  refine gg_get (v := .int (u.1 t0 6)) hG dX7_signOf_85 (gg_kd_lt kt0 (by decide)) kt0 fl_RX7_36 (gg_fvI kt0 rfl) ?_
  refine gg_bipush (v := 8) hG dX7_signOf_88 (by decide) ?_
  refine gg_iand hG dX7_signOf_90 ?_
  refine gg_if_eq (tgt := 99) hG dX7_signOf_91 (by decide) (fun c13 => ?_) (fun c13 => ?_)
  · replace h := h.1 c13
    refine gg_iconst (v := 0) hG dX7_signOf_99 (by decide) ?_
    refine gg_mk hG [false, false, true, true, true, false] rfl ?_
    exact m_X7_signOf_c100 hG h
  · replace h := h.2 c13
    refine gg_bipush (v := 6) hG dX7_signOf_94 (by decide) ?_
    refine gg_goto (tgt := 100) hG dX7_signOf_96 (by decide) ?_
    refine gg_mk hG [false, false, true, true, true, false] rfl ?_
    exact m_X7_signOf_c100 hG h
def w_X7_signOf_c61 (t0 : Nat) (a2 : Int32) (a4 : Int32) (a5 : Int32) (z0 : Int32) (z1 : Int32) (u : gg_M)  (Q : Int32 → gg_M → Prop) : Prop :=
  ∀ v14 : Int32, v14 = (z0 - z1) →
  (((u.1 t0 6) &&& 1) = 0 →
   w_X7_signOf_c79 t0 a2 v14 a5 a4 0 u Q) ∧
  (¬ ((u.1 t0 6) &&& 1) = 0 →
   w_X7_signOf_c79 t0 a2 v14 a5 a4 4 u Q)
set_option maxRecDepth 10000 in
theorem m_X7_signOf_c61 {t0 : Nat} {a2 : Int32} {a4 : Int32} {a5 : Int32} {z0 : Int32} {z1 : Int32} {u : gg_M}  {G : gg_T} {Q : Int32 → gg_M → Prop} (hG : gg_Cl none cX7_signOf 6 RX7 (some .int) 1 (gg_eI Q) G) (kt0 : gg_kd t0 = 7) (h : w_X7_signOf_c61 t0 a2 a4 a5 z0 z1 u  Q)   : G 61 [some (.ref t0), none, some (.int a2), none, some (.int a4), some (.int a5)] [.int z1, .int z0] u := by
  unfold w_X7_signOf_c61 at h
  refine gg_isub hG dX7_signOf_61 ?_
  refine gg_ni (fun v14 e14 => ?_)
  replace h := h v14 e14
  refine gg_istore_n (L1 := [some (.ref t0), none, some (.int a2), some (.int v14), some (.int a4), some (.int a5)]) hG dX7_signOf_62 rfl (by decide) rfl ?_
  refine gg_iload hG dX7_signOf_63 rfl ?_
  refine gg_aload_n hG dX7_signOf_65 rfl rfl ?_
  refine gg_get (v := .int (u.1 t0 6)) hG dX7_signOf_66 (gg_kd_lt kt0 (by decide)) kt0 fl_RX7_36 (gg_fvI kt0 rfl) ?_
  refine gg_iconst (v := 1) hG dX7_signOf_69 (by decide) ?_
  refine gg_iand hG dX7_signOf_70 ?_
  refine gg_if_eq (tgt := 78) hG dX7_signOf_71 (by decide) (fun c15 => ?_) (fun c15 => ?_)
  · replace h := h.1 c15
    refine gg_iconst (v := 0) hG dX7_signOf_78 (by decide) ?_
    refine gg_mk hG [true, false, true, true, false, true] rfl ?_
    exact m_X7_signOf_c79 hG kt0 h
  · replace h := h.2 c15
    refine gg_iconst (v := 4) hG dX7_signOf_74 (by decide) ?_
    refine gg_goto (tgt := 79) hG dX7_signOf_75 (by decide) ?_
    refine gg_mk hG [true, false, true, true, false, true] rfl ?_
    exact m_X7_signOf_c79 hG kt0 h
def w_X7_signOf (t0 : Nat) (a2 : Int32) (u : gg_M)  (Q : Int32 → gg_M → Prop) : Prop :=
  ∀ v16 : Int32, v16 = (((u.1 7 1) + ((u.1 t0 0) / 8)) - ((u.1 t0 3) / 3)) →
  ∀ v17 : Int32, v17 = ((u.1 7 0) + ((u.1 t0 4) / 6)) →
  ∀ v18 : Int32, v18 = (u.1 7 2) →
  (((u.1 t0 6) &&& 2) = 0 →
   w_X7_signOf_c61 t0 a2 v17 v18 v16 0 u Q) ∧
  (¬ ((u.1 t0 6) &&& 2) = 0 →
   w_X7_signOf_c61 t0 a2 v17 v18 v16 5 u Q)
set_option maxRecDepth 10000 in
theorem m_X7_signOf {t0 : Nat} {a2 : Int32} {u : gg_M}  {G : gg_T} {Q : Int32 → gg_M → Prop} (hG : gg_Cl none cX7_signOf 6 RX7 (some .int) 1 (gg_eI Q) G) (kt0 : gg_kd t0 = 7) (h : w_X7_signOf t0 a2 u  Q)   : G 0 [some (.ref t0), some (.ref 6), some (.int a2), none, none, none] [] u := by
  unfold w_X7_signOf at h
  refine gg_aload_n hG dX7_signOf_0 rfl rfl ?_
  refine gg_get (v := .ref 7) hG dX7_signOf_1 (by decide) rfl fl_RX7_9 rfl ?_
  refine gg_iconst (v := 1) hG dX7_signOf_4 (by decide) ?_
  refine gg_iald (j := 1) hG dX7_signOf_5 (by decide) rfl (gg_vin (by decide +kernel)) (by decide) ?_
  refine gg_aload_n hG dX7_signOf_6 rfl rfl ?_
  refine gg_get (v := .int (u.1 t0 0)) hG dX7_signOf_7 (gg_kd_lt kt0 (by decide)) kt0 fl_RX7_15 (gg_fvI kt0 rfl) ?_
  refine gg_bipush (v := 8) hG dX7_signOf_10 (by decide) ?_
  refine gg_idiv hG dX7_signOf_12 (by decide) ?_
  refine gg_iadd hG dX7_signOf_13 ?_
  refine gg_aload_n hG dX7_signOf_14 rfl rfl ?_
  refine gg_get (v := .int (u.1 t0 3)) hG dX7_signOf_15 (gg_kd_lt kt0 (by decide)) kt0 fl_RX7_27 (gg_fvI kt0 rfl) ?_
  refine gg_iconst (v := 3) hG dX7_signOf_18 (by decide) ?_
  refine gg_idiv hG dX7_signOf_19 (by decide) ?_
  refine gg_isub hG dX7_signOf_20 ?_
  refine gg_ni (fun v16 e16 => ?_)
  replace h := h v16 e16
  refine gg_istore_n (L1 := [some (.ref t0), some (.ref 6), some (.int a2), some (.int v16), none, none]) hG dX7_signOf_21 rfl (by decide) rfl ?_
  refine gg_aload_n hG dX7_signOf_22 rfl rfl ?_
  refine gg_get (v := .ref 7) hG dX7_signOf_23 (by decide) rfl fl_RX7_9 rfl ?_
  refine gg_iconst (v := 0) hG dX7_signOf_26 (by decide) ?_
  refine gg_iald (j := 0) hG dX7_signOf_27 (by decide) rfl (gg_vin (by decide +kernel)) (by decide) ?_
  refine gg_aload_n hG dX7_signOf_28 rfl rfl ?_
  refine gg_get (v := .int (u.1 t0 4)) hG dX7_signOf_29 (gg_kd_lt kt0 (by decide)) kt0 fl_RX7_30 (gg_fvI kt0 rfl) ?_
  refine gg_bipush (v := 6) hG dX7_signOf_32 (by decide) ?_
  refine gg_idiv hG dX7_signOf_34 (by decide) ?_
  refine gg_iadd hG dX7_signOf_35 ?_
  refine gg_ni (fun v17 e17 => ?_)
  replace h := h v17 e17
  refine gg_istore (L1 := [some (.ref t0), some (.ref 6), some (.int a2), some (.int v16), some (.int v17), none]) hG dX7_signOf_36 (by decide) rfl ?_
  refine gg_aload_n hG dX7_signOf_38 rfl rfl ?_
  refine gg_get (v := .ref 7) hG dX7_signOf_39 (by decide) rfl fl_RX7_9 rfl ?_
  refine gg_iconst (v := 2) hG dX7_signOf_42 (by decide) ?_
  refine gg_iald (j := 2) hG dX7_signOf_43 (by decide) rfl (gg_vin (by decide +kernel)) (by decide) ?_
  refine gg_ni (fun v18 e18 => ?_)
  replace h := h v18 e18
  refine gg_istore (L1 := [some (.ref t0), some (.ref 6), some (.int a2), some (.int v16), some (.int v17), some (.int v18)]) hG dX7_signOf_44 (by decide) rfl ?_
  refine gg_iload_n hG dX7_signOf_46 rfl rfl ?_
  refine gg_aload_n hG dX7_signOf_47 rfl rfl ?_
  refine gg_get (v := .int (u.1 t0 6)) hG dX7_signOf_48 (gg_kd_lt kt0 (by decide)) kt0 fl_RX7_36 (gg_fvI kt0 rfl) ?_
  refine gg_iconst (v := 2) hG dX7_signOf_51 (by decide) ?_
  refine gg_iand hG dX7_signOf_52 ?_
  refine gg_if_eq (tgt := 60) hG dX7_signOf_53 (by decide) (fun c19 => ?_) (fun c19 => ?_)
  · replace h := h.1 c19
    refine gg_iconst (v := 0) hG dX7_signOf_60 (by decide) ?_
    refine gg_mk hG [true, false, true, false, true, true] rfl ?_
    exact m_X7_signOf_c61 hG kt0 h
  · replace h := h.2 c19
    refine gg_iconst (v := 5) hG dX7_signOf_56 (by decide) ?_
    refine gg_goto (tgt := 61) hG dX7_signOf_57 (by decide) ?_
    refine gg_mk hG [true, false, true, false, true, true] rfl ?_
    exact m_X7_signOf_c61 hG kt0 h
theorem mt_X7_signOf {t0 : Nat} {a2 : Int32} (kt0 : gg_kd t0 = 7) {u : gg_M} {Q : Int32 → gg_M → Prop} (h : w_X7_signOf t0 a2 u Q) : gg_Mt 1 yX7_signOf cX7_signOf 6 (some .int) [.ref t0, .ref 6, .int a2] u (gg_eI Q) :=
  gg_intro (own := RX7) (by decide +kernel) rfl rfl (Nat.le_of_ble_eq_true rfl) (fun G hG => m_X7_signOf hG kt0 h)
/-! X7_turn -/
def w_X7_turn_c185 (a9 : Int32) (r0 : Nat) (z1 : Int32) (z2 : Int32) (z3 : Int32) (u : gg_M)  (Q : Int32 → gg_M → Prop) : Prop :=
  w_J9_min_7cf53 z1 (z2 + z3) u (fun v2 u1 =>
  ∀ u3 : gg_M, u3 = gg_wI u1 r0 4 v2 →
  Q a9 u3)
set_option maxRecDepth 10000 in
theorem m_X7_turn_c185 {a9 : Int32} {r0 : Nat} {z1 : Int32} {z2 : Int32} {z3 : Int32} {u : gg_M}  {G : gg_T} {Q : Int32 → gg_M → Prop} (hG : gg_Cl none cX7_turn 10 RX7 (some .int) 2 (gg_eI Q) G) (kr0 : gg_kd r0 = 7) (h : w_X7_turn_c185 a9 r0 z1 z2 z3 u  Q)   : G 185 [none, none, none, none, none, none, none, none, none, some (.int a9)] [.int z3, .int z2, .int z1, .ref r0] u := by
  unfold w_X7_turn_c185 at h
  refine gg_iadd hG dX7_turn_185 ?_
  refine gg_xs (As := [.int z1, .int (z2 + z3)]) (st := [.ref r0]) hG dX7_turn_186 ml_RX7_70 Y_J9_min_7cf53 YS_J9_min_7cf53 (mt_J9_min_7cf53 h) rfl (by decide) (Nat.le_of_ble_eq_true rfl) rfl (gg_ki (fun v2 u1 h => ?_))
  refine gg_putI hG dX7_turn_189 (gg_kd_lt kr0 (by decide)) kr0 fp_RX7_30 rfl rfl rfl ?_
  refine gg_nu (fun u3 eu3 => ?_)
  replace h := h u3 eu3
  refine gg_iload hG dX7_turn_192 rfl ?_
  exact gg_iret hG dX7_turn_194 rfl rfl ⟨_, rfl, h⟩
def w_X7_turn_c64 (t0 : Nat) (z0 : Int32) (u : gg_M)  (Q : Int32 → gg_M → Prop) : Prop :=
  ∀ v4 : Int32, v4 = ((z0 * (u.1 7 4)) / 10) →
  ∀ v5 : Int32, v5 = ((u.1 t0 2) / 4) →
  ∀ v6 : Int32, v6 = (((z0 + v5) + (u.1 t0 5)) - v4) →
  ∀ u7 : gg_M, u7 = gg_wI u t0 2 ((u.1 t0 2) + (v4 - v5)) →
  ∀ u8 : gg_M, u8 = gg_wI u7 t0 5 0 →
  w_X7_signOf t0 v6 u8 (fun v10 u9 =>
  (¬ v10 = 2 →
   w_J9_max_7cf53 0 (v6 - 9) u9 (fun v13 u12 =>
   w_J9_min_7cf53 99 ((u9.1 t0 3) + v13) u12 (fun v15 u14 =>
   ∀ u16 : gg_M, u16 = gg_wI u14 t0 3 v15 →
   (¬ v10 = 0 →
    w_X7_turn_c185 v10 t0 20 (u16.1 t0 4) 2 u16 Q) ∧
   (v10 = 0 →
    w_X7_turn_c185 v10 t0 20 (u16.1 t0 4) 1 u16 Q)))) ∧
  (v10 = 2 →
   ∀ u18 : gg_M, u18 = gg_wI u9 t0 7 1 →
   Q v10 u18))
set_option maxRecDepth 10000 in
theorem m_X7_turn_c64 {t0 : Nat} {z0 : Int32} {u : gg_M}  {G : gg_T} {Q : Int32 → gg_M → Prop} (hG : gg_Cl none cX7_turn 10 RX7 (some .int) 2 (gg_eI Q) G) (kt0 : gg_kd t0 = 7) (h : w_X7_turn_c64 t0 z0 u  Q)   : G 64 [some (.ref t0), some (.ref 6), none, none, none, none, none, none, none, none] [.int z0] u := by
  unfold w_X7_turn_c64 at h
  refine gg_istore (L1 := [some (.ref t0), some (.ref 6), none, none, none, some (.int z0), none, none, none, none]) hG dX7_turn_64 (by decide) rfl ?_
  refine gg_iload hG dX7_turn_66 rfl ?_
  refine gg_aload_n hG dX7_turn_68 rfl rfl ?_
  refine gg_get (v := .ref 7) hG dX7_turn_69 (by decide) rfl fl_RX7_9 rfl ?_
  refine gg_iconst (v := 4) hG dX7_turn_72 (by decide) ?_
  refine gg_iald (j := 4) hG dX7_turn_73 (by decide) rfl (gg_vin (by decide +kernel)) (by decide) ?_
  refine gg_imul hG dX7_turn_74 ?_
  refine gg_bipush (v := 10) hG dX7_turn_75 (by decide) ?_
  refine gg_idiv hG dX7_turn_77 (by decide) ?_
  refine gg_ni (fun v4 e4 => ?_)
  replace h := h v4 e4
  refine gg_istore (L1 := [some (.ref t0), some (.ref 6), none, none, none, some (.int z0), some (.int v4), none, none, none]) hG dX7_turn_78 (by decide) rfl ?_
  refine gg_aload_n hG dX7_turn_80 rfl rfl ?_
  refine gg_get (v := .int (u.1 t0 2)) hG dX7_turn_81 (gg_kd_lt kt0 (by decide)) kt0 fl_RX7_24 (gg_fvI kt0 rfl) ?_
  refine gg_iconst (v := 4) hG dX7_turn_84 (by decide) ?_
  refine gg_idiv hG dX7_turn_85 (by decide) ?_
  refine gg_ni (fun v5 e5 => ?_)
  replace h := h v5 e5
  refine gg_istore (L1 := [some (.ref t0), some (.ref 6), none, none, none, some (.int z0), some (.int v4), some (.int v5), none, none]) hG dX7_turn_86 (by decide) rfl ?_
  refine gg_iload hG dX7_turn_88 rfl ?_
  refine gg_iload hG dX7_turn_90 rfl ?_
  refine gg_iadd hG dX7_turn_92 ?_
  refine gg_aload_n hG dX7_turn_93 rfl rfl ?_
  refine gg_get (v := .int (u.1 t0 5)) hG dX7_turn_94 (gg_kd_lt kt0 (by decide)) kt0 fl_RX7_33 (gg_fvI kt0 rfl) ?_
  refine gg_iadd hG dX7_turn_97 ?_
  refine gg_iload hG dX7_turn_98 rfl ?_
  refine gg_isub hG dX7_turn_100 ?_
  refine gg_ni (fun v6 e6 => ?_)
  replace h := h v6 e6
  refine gg_istore (L1 := [some (.ref t0), some (.ref 6), none, none, none, some (.int z0), some (.int v4), some (.int v5), some (.int v6), none]) hG dX7_turn_101 (by decide) rfl ?_
  refine gg_aload_n hG dX7_turn_103 rfl rfl ?_
  refine gg_dup hG dX7_turn_104 rfl ?_
  refine gg_get (v := .int (u.1 t0 2)) hG dX7_turn_105 (gg_kd_lt kt0 (by decide)) kt0 fl_RX7_24 (gg_fvI kt0 rfl) ?_
  refine gg_iload hG dX7_turn_108 rfl ?_
  refine gg_iload hG dX7_turn_110 rfl ?_
  refine gg_isub hG dX7_turn_112 ?_
  refine gg_iadd hG dX7_turn_113 ?_
  refine gg_putI hG dX7_turn_114 (gg_kd_lt kt0 (by decide)) kt0 fp_RX7_24 rfl rfl rfl ?_
  refine gg_nu (fun u7 eu7 => ?_)
  replace h := h u7 eu7
  refine gg_aload_n hG dX7_turn_117 rfl rfl ?_
  refine gg_iconst (v := 0) hG dX7_turn_118 (by decide) ?_
  refine gg_putI hG dX7_turn_119 (gg_kd_lt kt0 (by decide)) kt0 fp_RX7_33 rfl rfl rfl ?_
  refine gg_nu (fun u8 eu8 => ?_)
  replace h := h u8 eu8
  refine gg_aload_n hG dX7_turn_122 rfl rfl ?_
  refine gg_aload_n hG dX7_turn_123 rfl rfl ?_
  refine gg_iload hG dX7_turn_124 rfl ?_
  refine gg_xv (As := [.ref 6, .int v6]) (st := []) hG dX7_turn_126 ml_RX7_61 Y_X7_signOf YV_X7_signOf (gg_kd_lt kt0 (by decide)) (gg_rcv kt0 rfl) (mt_X7_signOf kt0 h) rfl (by decide) (Nat.le_of_ble_eq_true rfl) rfl (gg_ki (fun v10 u9 h => ?_))
  refine gg_istore (L1 := [some (.ref t0), some (.ref 6), none, none, none, some (.int z0), some (.int v4), some (.int v5), some (.int v6), some (.int v10)]) hG dX7_turn_129 (by decide) rfl ?_
  refine gg_iload hG dX7_turn_131 rfl ?_
  refine gg_iconst (v := 2) hG dX7_turn_133 (by decide) ?_
  refine gg_ic_ne (tgt := 145) hG dX7_turn_134 (by decide) (fun c11 => ?_) (fun c11 => ?_)
  · replace h := h.1 c11
    refine gg_aload_n hG dX7_turn_145 rfl rfl ?_
    refine gg_bipush (v := 99) hG dX7_turn_146 (by decide) ?_
    refine gg_aload_n hG dX7_turn_148 rfl rfl ?_
    refine gg_get (v := .int (u9.1 t0 3)) hG dX7_turn_149 (gg_kd_lt kt0 (by decide)) kt0 fl_RX7_27 (gg_fvI kt0 rfl) ?_
    refine gg_iconst (v := 0) hG dX7_turn_152 (by decide) ?_
    refine gg_iload hG dX7_turn_153 rfl ?_
    refine gg_bipush (v := 9) hG dX7_turn_155 (by decide) ?_
    refine gg_isub hG dX7_turn_157 ?_
    refine gg_xs (As := [.int 0, .int (v6 - 9)]) (st := [.int (u9.1 t0 3), .int 99, .ref t0]) hG dX7_turn_158 ml_RX7_64 Y_J9_max_7cf53 YS_J9_max_7cf53 (mt_J9_max_7cf53 h) rfl (by decide) (Nat.le_of_ble_eq_true rfl) rfl (gg_ki (fun v13 u12 h => ?_))
    refine gg_iadd hG dX7_turn_161 ?_
    refine gg_xs (As := [.int 99, .int ((u9.1 t0 3) + v13)]) (st := [.ref t0]) hG dX7_turn_162 ml_RX7_70 Y_J9_min_7cf53 YS_J9_min_7cf53 (mt_J9_min_7cf53 h) rfl (by decide) (Nat.le_of_ble_eq_true rfl) rfl (gg_ki (fun v15 u14 h => ?_))
    refine gg_putI hG dX7_turn_165 (gg_kd_lt kt0 (by decide)) kt0 fp_RX7_27 rfl rfl rfl ?_
    refine gg_nu (fun u16 eu16 => ?_)
    replace h := h u16 eu16
    refine gg_aload_n hG dX7_turn_168 rfl rfl ?_
    refine gg_bipush (v := 20) hG dX7_turn_169 (by decide) ?_
    refine gg_aload_n hG dX7_turn_171 rfl rfl ?_
    refine gg_get (v := .int (u16.1 t0 4)) hG dX7_turn_172 (gg_kd_lt kt0 (by decide)) kt0 fl_RX7_30 (gg_fvI kt0 rfl) ?_
    refine gg_iload hG dX7_turn_175 rfl ?_
    refine gg_if_ne (tgt := 184) hG dX7_turn_177 (by decide) (fun c17 => ?_) (fun c17 => ?_)
    · replace h := h.1 c17
      refine gg_iconst (v := 2) hG dX7_turn_184 (by decide) ?_
      refine gg_mk hG [false, false, false, false, false, false, false, false, false, true] rfl ?_
      exact m_X7_turn_c185 hG kt0 h
    · replace h := h.2 c17
      refine gg_iconst (v := 1) hG dX7_turn_180 (by decide) ?_
      refine gg_goto (tgt := 185) hG dX7_turn_181 (by decide) ?_
      refine gg_mk hG [false, false, false, false, false, false, false, false, false, true] rfl ?_
      exact m_X7_turn_c185 hG kt0 h
  · replace h := h.2 c11
    refine gg_aload_n hG dX7_turn_137 rfl rfl ?_
    refine gg_iconst (v := 1) hG dX7_turn_138 (by decide) ?_
    refine gg_putI hG dX7_turn_139 (gg_kd_lt kt0 (by decide)) kt0 fp_RX7_39 rfl (gg_nb (Or.inr rfl)).1 (gg_nb (Or.inr rfl)).2 ?_
    refine gg_nu (fun u18 eu18 => ?_)
    replace h := h u18 eu18
    refine gg_iload hG dX7_turn_142 rfl ?_
    exact gg_iret hG dX7_turn_144 rfl rfl ⟨_, rfl, h⟩
def w_X7_turn_c50 (t0 : Nat) (u : gg_M)  (Q : Int32 → gg_M → Prop) : Prop :=
  w_X7_turn_c64 t0 0 u Q
set_option maxRecDepth 10000 in
theorem m_X7_turn_c50 {t0 : Nat} {u : gg_M}  {G : gg_T} {Q : Int32 → gg_M → Prop} (hG : gg_Cl none cX7_turn 10 RX7 (some .int) 2 (gg_eI Q) G) (kt0 : gg_kd t0 = 7) (h : w_X7_turn_c50 t0 u  Q)   : G 50 [some (.ref t0), some (.ref 6), none, none, none, none, none, none, none, none] [] u := by
  unfold w_X7_turn_c50 at h
  refine gg_iconst (v := 0) hG dX7_turn_50 (by decide) ?_
  refine gg_goto (tgt := 64) hG dX7_turn_51 (by decide) ?_
  exact m_X7_turn_c64 hG kt0 h
def w_X7_turn_c39 (t0 : Nat) (a2 : Int32) (a3 : Int32) (z0 : Int32) (u : gg_M)  (Q : Int32 → gg_M → Prop) : Prop :=
  (¬ a3 = 0 →
   w_X7_turn_c50 t0 u Q) ∧
  (a3 = 0 →
   (z0 = 0 →
    w_X7_turn_c64 t0 ((u.1 7 3) + ((2 : Int32) * a2)) u Q) ∧
   (¬ z0 = 0 →
    w_X7_turn_c50 t0 u Q))
set_option maxRecDepth 10000 in
theorem m_X7_turn_c39 {t0 : Nat} {a2 : Int32} {a3 : Int32} {z0 : Int32} {u : gg_M}  {G : gg_T} {Q : Int32 → gg_M → Prop} (hG : gg_Cl none cX7_turn 10 RX7 (some .int) 2 (gg_eI Q) G) (kt0 : gg_kd t0 = 7) (h : w_X7_turn_c39 t0 a2 a3 z0 u  Q)   : G 39 [some (.ref t0), some (.ref 6), some (.int a2), some (.int a3), none, none, none, none, none, none] [.int z0] u := by
  unfold w_X7_turn_c39 at h
  refine gg_istore (L1 := [some (.ref t0), some (.ref 6), some (.int a2), some (.int a3), some (.int z0), none, none, none, none, none]) hG dX7_turn_39 (by decide) rfl ?_
  refine gg_iload_n hG dX7_turn_41 rfl rfl ?_
  refine gg_if_ne (tgt := 50) hG dX7_turn_42 (by decide) (fun c19 => ?_) (fun c19 => ?_)
  · replace h := h.1 c19
    refine gg_mk hG [true, true, false, false, false, false, false, false, false, false] rfl ?_
    exact m_X7_turn_c50 hG kt0 h
  · replace h := h.2 c19
    refine gg_iload hG dX7_turn_45 rfl ?_
    refine gg_if_eq (tgt := 54) hG dX7_turn_47 (by decide) (fun c20 => ?_) (fun c20 => ?_)
    · replace h := h.1 c20
      refine gg_aload_n hG dX7_turn_54 rfl rfl ?_
      refine gg_get (v := .ref 7) hG dX7_turn_55 (by decide) rfl fl_RX7_9 rfl ?_
      refine gg_iconst (v := 3) hG dX7_turn_58 (by decide) ?_
      refine gg_iald (j := 3) hG dX7_turn_59 (by decide) rfl (gg_vin (by decide +kernel)) (by decide) ?_
      refine gg_iconst (v := 2) hG dX7_turn_60 (by decide) ?_
      refine gg_iload_n hG dX7_turn_61 rfl rfl ?_
      refine gg_imul hG dX7_turn_62 ?_
      refine gg_iadd hG dX7_turn_63 ?_
      refine gg_mk hG [true, true, false, false, false, false, false, false, false, false] rfl ?_
      exact m_X7_turn_c64 hG kt0 h
    · replace h := h.2 c20
      refine gg_mk hG [true, true, false, false, false, false, false, false, false, false] rfl ?_
      exact m_X7_turn_c50 hG kt0 h
def w_X7_turn_c38 (t0 : Nat) (a2 : Int32) (a3 : Int32) (u : gg_M)  (Q : Int32 → gg_M → Prop) : Prop :=
  w_X7_turn_c39 t0 a2 a3 0 u Q
set_option maxRecDepth 10000 in
theorem m_X7_turn_c38 {t0 : Nat} {a2 : Int32} {a3 : Int32} {u : gg_M}  {G : gg_T} {Q : Int32 → gg_M → Prop} (hG : gg_Cl none cX7_turn 10 RX7 (some .int) 2 (gg_eI Q) G) (kt0 : gg_kd t0 = 7) (h : w_X7_turn_c38 t0 a2 a3 u  Q)   : G 38 [some (.ref t0), some (.ref 6), some (.int a2), some (.int a3), none, none, none, none, none, none] [] u := by
  unfold w_X7_turn_c38 at h
  refine gg_iconst (v := 0) hG dX7_turn_38 (by decide) ?_
  exact m_X7_turn_c39 hG kt0 h
def w_X7_turn_c14 (t0 : Nat) (a2 : Int32) (z0 : Int32) (u : gg_M)  (Q : Int32 → gg_M → Prop) : Prop :=
  (((u.1 t0 6) &&& 16) = 0 →
   w_X7_turn_c38 t0 a2 z0 u Q) ∧
  (¬ ((u.1 t0 6) &&& 16) = 0 →
   (6 ≤ (u.1 t0 4) →
    w_X7_turn_c38 t0 a2 z0 u Q) ∧
   (¬ 6 ≤ (u.1 t0 4) →
    w_X7_turn_c39 t0 a2 z0 1 u Q))
set_option maxRecDepth 10000 in
theorem m_X7_turn_c14 {t0 : Nat} {a2 : Int32} {z0 : Int32} {u : gg_M}  {G : gg_T} {Q : Int32 → gg_M → Prop} (hG : gg_Cl none cX7_turn 10 RX7 (some .int) 2 (gg_eI Q) G) (kt0 : gg_kd t0 = 7) (h : w_X7_turn_c14 t0 a2 z0 u  Q)   : G 14 [some (.ref t0), some (.ref 6), some (.int a2), none, none, none, none, none, none, none] [.int z0] u := by
  unfold w_X7_turn_c14 at h
  refine gg_istore_n (L1 := [some (.ref t0), some (.ref 6), some (.int a2), some (.int z0), none, none, none, none, none, none]) hG dX7_turn_14 rfl (by decide) rfl ?_
  refine gg_aload_n hG dX7_turn_15 rfl rfl ?_
  refine gg_get (v := .int (u.1 t0 6)) hG dX7_turn_16 (gg_kd_lt kt0 (by decide)) kt0 fl_RX7_36 (gg_fvI kt0 rfl) ?_
  refine gg_bipush (v := 16) hG dX7_turn_19 (by decide) ?_
  refine gg_iand hG dX7_turn_21 ?_
  refine gg_if_eq (tgt := 38) hG dX7_turn_22 (by decide) (fun c21 => ?_) (fun c21 => ?_)
  · replace h := h.1 c21
    exact m_X7_turn_c38 hG kt0 h
  · replace h := h.2 c21
    refine gg_aload_n hG dX7_turn_25 rfl rfl ?_
    refine gg_get (v := .int (u.1 t0 4)) hG dX7_turn_26 (gg_kd_lt kt0 (by decide)) kt0 fl_RX7_30 (gg_fvI kt0 rfl) ?_
    refine gg_bipush (v := 6) hG dX7_turn_29 (by decide) ?_
    refine gg_ic_ge (tgt := 38) hG dX7_turn_31 (by decide) (fun c22 => ?_) (fun c22 => ?_)
    · replace h := h.1 c22
      exact m_X7_turn_c38 hG kt0 h
    · replace h := h.2 c22
      refine gg_iconst (v := 1) hG dX7_turn_34 (by decide) ?_
      refine gg_goto (tgt := 39) hG dX7_turn_35 (by decide) ?_
      exact m_X7_turn_c39 hG kt0 h
def w_X7_turn (t0 : Nat) (a2 : Int32) (u : gg_M)  (Q : Int32 → gg_M → Prop) : Prop :=
  (((u.1 t0 6) &&& 4) = 0 →
   w_X7_turn_c14 t0 a2 0 u Q) ∧
  (¬ ((u.1 t0 6) &&& 4) = 0 →
   w_X7_turn_c14 t0 a2 1 u Q)
set_option maxRecDepth 10000 in
theorem m_X7_turn {t0 : Nat} {a2 : Int32} {u : gg_M}  {G : gg_T} {Q : Int32 → gg_M → Prop} (hG : gg_Cl none cX7_turn 10 RX7 (some .int) 2 (gg_eI Q) G) (kt0 : gg_kd t0 = 7) (h : w_X7_turn t0 a2 u  Q)   : G 0 [some (.ref t0), some (.ref 6), some (.int a2), none, none, none, none, none, none, none] [] u := by
  unfold w_X7_turn at h
  refine gg_aload_n hG dX7_turn_0 rfl rfl ?_
  refine gg_get (v := .int (u.1 t0 6)) hG dX7_turn_1 (gg_kd_lt kt0 (by decide)) kt0 fl_RX7_36 (gg_fvI kt0 rfl) ?_
  refine gg_iconst (v := 4) hG dX7_turn_4 (by decide) ?_
  refine gg_iand hG dX7_turn_5 ?_
  refine gg_if_eq (tgt := 13) hG dX7_turn_6 (by decide) (fun c23 => ?_) (fun c23 => ?_)
  · replace h := h.1 c23
    refine gg_iconst (v := 0) hG dX7_turn_13 (by decide) ?_
    exact m_X7_turn_c14 hG kt0 h
  · replace h := h.2 c23
    refine gg_iconst (v := 1) hG dX7_turn_9 (by decide) ?_
    refine gg_goto (tgt := 14) hG dX7_turn_10 (by decide) ?_
    exact m_X7_turn_c14 hG kt0 h
theorem mt_X7_turn {t0 : Nat} {a2 : Int32} (kt0 : gg_kd t0 = 7) {u : gg_M} {Q : Int32 → gg_M → Prop} (h : w_X7_turn t0 a2 u Q) : gg_Mt 2 yX7_turn cX7_turn 10 (some .int) [.ref t0, .ref 6, .int a2] u (gg_eI Q) :=
  gg_intro (own := RX7) (by decide +kernel) rfl rfl (Nat.le_of_ble_eq_true rfl) (fun G hG => m_X7_turn hG kt0 h)
/-! X7_does -/
def w_X7_does_c104 (z0 : Int32) (u : gg_M)  (Q : Int32 → gg_M → Prop) : Prop :=
  Q z0 u
set_option maxRecDepth 10000 in
theorem m_X7_does_c104 {z0 : Int32} {u : gg_M}  {G : gg_T} {Q : Int32 → gg_M → Prop} (hG : gg_Cl none cX7_does 4 RX7 (some .int) 3 (gg_eI Q) G)  (h : w_X7_does_c104 z0 u  Q)   : G 104 [none, none, none, none] [.int z0] u := by
  unfold w_X7_does_c104 at h
  exact gg_iret hG dX7_does_104 rfl rfl ⟨_, rfl, h⟩
def w_X7_does_c58  (u : gg_M)  (Q : Int32 → gg_M → Prop) : Prop :=
  Q 4 u
set_option maxRecDepth 10000 in
theorem m_X7_does_c58  {u : gg_M}  {G : gg_T} {Q : Int32 → gg_M → Prop} (hG : gg_Cl none cX7_does 4 RX7 (some .int) 3 (gg_eI Q) G)  (h : w_X7_does_c58  u  Q)   : G 58 [none, none, none, none] [] u := by
  unfold w_X7_does_c58 at h
  refine gg_iconst (v := 4) hG dX7_does_58 (by decide) ?_
  exact gg_iret hG dX7_does_59 rfl rfl ⟨_, rfl, h⟩
def w_X7_does_c37 (t0 : Nat) (a2 : Int32) (z0 : Int32) (u : gg_M)  (Q : Int32 → gg_M → Prop) : Prop :=
  ((u.1 t0 0) < z0 →
   w_X7_does_c58 u Q) ∧
  (¬ (u.1 t0 0) < z0 →
   vp_in a2 10 ∧
   ((gg_sv 4 a2.toNatClampNeg) ≤ (u.1 t0 1) →
    ∀ u4 : gg_M, u4 = gg_wI u t0 0 ((u.1 t0 0) - z0) →
    vp_in a2 10 ∧
    ∀ u6 : gg_M, u6 = gg_wI u4 t0 1 ((u4.1 t0 1) - (gg_sv 4 a2.toNatClampNeg)) →
    (4 ≤ a2 →
     w_X7_tend t0 a2 u6 (fun v9 u8 =>
     w_X7_does_c104 v9 u8 Q)) ∧
    (¬ 4 ≤ a2 →
     w_X7_turn t0 a2 u6 (fun v11 u10 =>
     w_X7_does_c104 v11 u10 Q))) ∧
   (¬ (gg_sv 4 a2.toNatClampNeg) ≤ (u.1 t0 1) →
    w_X7_does_c58 u Q))
set_option maxRecDepth 10000 in
theorem m_X7_does_c37 {t0 : Nat} {a2 : Int32} {z0 : Int32} {u : gg_M}  {G : gg_T} {Q : Int32 → gg_M → Prop} (hG : gg_Cl none cX7_does 4 RX7 (some .int) 3 (gg_eI Q) G) (kt0 : gg_kd t0 = 7) (h : w_X7_does_c37 t0 a2 z0 u  Q)   : G 37 [some (.ref t0), some (.ref 6), some (.int a2), none] [.int z0] u := by
  unfold w_X7_does_c37 at h
  refine gg_istore_n (L1 := [some (.ref t0), some (.ref 6), some (.int a2), some (.int z0)]) hG dX7_does_37 rfl (by decide) rfl ?_
  refine gg_aload_n hG dX7_does_38 rfl rfl ?_
  refine gg_get (v := .int (u.1 t0 0)) hG dX7_does_39 (gg_kd_lt kt0 (by decide)) kt0 fl_RX7_15 (gg_fvI kt0 rfl) ?_
  refine gg_iload_n hG dX7_does_42 rfl rfl ?_
  refine gg_ic_lt (tgt := 58) hG dX7_does_43 (by decide) (fun c1 => ?_) (fun c1 => ?_)
  · replace h := h.1 c1
    refine gg_mk hG [false, false, false, false] rfl ?_
    exact m_X7_does_c58 hG h
  · replace h := h.2 c1
    refine gg_aload_n hG dX7_does_46 rfl rfl ?_
    refine gg_get (v := .int (u.1 t0 1)) hG dX7_does_47 (gg_kd_lt kt0 (by decide)) kt0 fl_RX7_21 (gg_fvI kt0 rfl) ?_
    refine gg_gets (k0 := 4) hG dX7_does_50 (by decide) fs_RX7_51 ?_
    refine gg_iload_n hG dX7_does_53 rfl rfl ?_
    obtain ⟨h2, h⟩ := h
    refine gg_ti (j := a2.toNatClampNeg) (k0 := 4) hG dX7_does_54 (by decide) rfl h2 rfl ?_
    refine gg_ic_ge (tgt := 60) hG dX7_does_55 (by decide) (fun c3 => ?_) (fun c3 => ?_)
    · replace h := h.1 c3
      refine gg_aload_n hG dX7_does_60 rfl rfl ?_
      refine gg_dup hG dX7_does_61 rfl ?_
      refine gg_get (v := .int (u.1 t0 0)) hG dX7_does_62 (gg_kd_lt kt0 (by decide)) kt0 fl_RX7_15 (gg_fvI kt0 rfl) ?_
      refine gg_iload_n hG dX7_does_65 rfl rfl ?_
      refine gg_isub hG dX7_does_66 ?_
      refine gg_putI hG dX7_does_67 (gg_kd_lt kt0 (by decide)) kt0 fp_RX7_15 rfl rfl rfl ?_
      refine gg_nu (fun u4 eu4 => ?_)
      replace h := h u4 eu4
      refine gg_aload_n hG dX7_does_70 rfl rfl ?_
      refine gg_dup hG dX7_does_71 rfl ?_
      refine gg_get (v := .int (u4.1 t0 1)) hG dX7_does_72 (gg_kd_lt kt0 (by decide)) kt0 fl_RX7_21 (gg_fvI kt0 rfl) ?_
      refine gg_gets (k0 := 4) hG dX7_does_75 (by decide) fs_RX7_51 ?_
      refine gg_iload_n hG dX7_does_78 rfl rfl ?_
      obtain ⟨h5, h⟩ := h
      refine gg_ti (j := a2.toNatClampNeg) (k0 := 4) hG dX7_does_79 (by decide) rfl h5 rfl ?_
      refine gg_isub hG dX7_does_80 ?_
      refine gg_putI hG dX7_does_81 (gg_kd_lt kt0 (by decide)) kt0 fp_RX7_21 rfl rfl rfl ?_
      refine gg_nu (fun u6 eu6 => ?_)
      replace h := h u6 eu6
      refine gg_iload_n hG dX7_does_84 rfl rfl ?_
      refine gg_iconst (v := 4) hG dX7_does_85 (by decide) ?_
      refine gg_ic_ge (tgt := 98) hG dX7_does_86 (by decide) (fun c7 => ?_) (fun c7 => ?_)
      · replace h := h.1 c7
        refine gg_aload_n hG dX7_does_98 rfl rfl ?_
        refine gg_aload_n hG dX7_does_99 rfl rfl ?_
        refine gg_iload_n hG dX7_does_100 rfl rfl ?_
        refine gg_xv (As := [.ref 6, .int a2]) (st := []) hG dX7_does_101 ml_RX7_58 Y_X7_tend YV_X7_tend (gg_kd_lt kt0 (by decide)) (gg_rcv kt0 rfl) (mt_X7_tend kt0 h) rfl (by decide) (Nat.le_of_ble_eq_true rfl) rfl (gg_ki (fun v9 u8 h => ?_))
        refine gg_mk hG [false, false, false, false] rfl ?_
        exact m_X7_does_c104 hG h
      · replace h := h.2 c7
        refine gg_aload_n hG dX7_does_89 rfl rfl ?_
        refine gg_aload_n hG dX7_does_90 rfl rfl ?_
        refine gg_iload_n hG dX7_does_91 rfl rfl ?_
        refine gg_xv (As := [.ref 6, .int a2]) (st := []) hG dX7_does_92 ml_RX7_54 Y_X7_turn YV_X7_turn (gg_kd_lt kt0 (by decide)) (gg_rcv kt0 rfl) (mt_X7_turn kt0 h) rfl (by decide) (Nat.le_of_ble_eq_true rfl) rfl (gg_ki (fun v11 u10 h => ?_))
        refine gg_goto (tgt := 104) hG dX7_does_95 (by decide) ?_
        refine gg_mk hG [false, false, false, false] rfl ?_
        exact m_X7_does_c104 hG h
    · replace h := h.2 c3
      refine gg_mk hG [false, false, false, false] rfl ?_
      exact m_X7_does_c58 hG h
def w_X7_does_c16  (u : gg_M)  (Q : Int32 → gg_M → Prop) : Prop :=
  Q 4 u
set_option maxRecDepth 10000 in
theorem m_X7_does_c16  {u : gg_M}  {G : gg_T} {Q : Int32 → gg_M → Prop} (hG : gg_Cl none cX7_does 4 RX7 (some .int) 3 (gg_eI Q) G)  (h : w_X7_does_c16  u  Q)   : G 16 [none, none, none, none] [] u := by
  unfold w_X7_does_c16 at h
  refine gg_iconst (v := 4) hG dX7_does_16 (by decide) ?_
  exact gg_iret hG dX7_does_17 rfl rfl ⟨_, rfl, h⟩
def w_X7_does (t0 : Nat) (a2 : Int32) (u : gg_M)  (Q : Int32 → gg_M → Prop) : Prop :=
  (¬ (u.1 t0 7) = 0 →
   w_X7_does_c16 u Q) ∧
  ((u.1 t0 7) = 0 →
   w_X10_isBelow a2 10 u (fun v14 u13 =>
   (¬ v14 = 0 →
    (4 ≤ a2 →
     w_X7_does_c37 t0 a2 0 u13 Q) ∧
    (¬ 4 ≤ a2 →
     w_X7_does_c37 t0 a2 ((1 : Int32) + ((u13.1 7 4) / 5)) u13 Q)) ∧
   (v14 = 0 →
    w_X7_does_c16 u13 Q)))
set_option maxRecDepth 10000 in
theorem m_X7_does {t0 : Nat} {a2 : Int32} {u : gg_M}  {G : gg_T} {Q : Int32 → gg_M → Prop} (hG : gg_Cl none cX7_does 4 RX7 (some .int) 3 (gg_eI Q) G) (kt0 : gg_kd t0 = 7) (h : w_X7_does t0 a2 u  Q)   : G 0 [some (.ref t0), some (.ref 6), some (.int a2), none] [] u := by
  unfold w_X7_does at h
  refine gg_aload_n hG dX7_does_0 rfl rfl ?_
  refine gg_get (v := .int (u.1 t0 7)) hG dX7_does_1 (gg_kd_lt kt0 (by decide)) kt0 fl_RX7_39 (gg_fvI kt0 rfl) ?_
  refine gg_if_ne (tgt := 16) hG dX7_does_4 (by decide) (fun c12 => ?_) (fun c12 => ?_)
  · replace h := h.1 c12
    refine gg_mk hG [false, false, false, false] rfl ?_
    exact m_X7_does_c16 hG h
  · replace h := h.2 c12
    refine gg_iload_n hG dX7_does_7 rfl rfl ?_
    refine gg_bipush (v := 10) hG dX7_does_8 (by decide) ?_
    refine gg_xsN (As := [.int a2, .int 10]) (st := []) hG dX7_does_10 ml_RX7_47 Y_X10_isBelow YS_X10_isBelow (mt_X10_isBelow h) rfl (by decide) (Nat.le_of_ble_eq_true rfl) rfl (gg_ki (fun v14 u13 h => ?_))
    refine gg_if_ne (tgt := 18) hG dX7_does_13 (by decide) (fun c15 => ?_) (fun c15 => ?_)
    · replace h := h.1 c15
      refine gg_iload_n hG dX7_does_18 rfl rfl ?_
      refine gg_iconst (v := 4) hG dX7_does_19 (by decide) ?_
      refine gg_ic_ge (tgt := 36) hG dX7_does_20 (by decide) (fun c16 => ?_) (fun c16 => ?_)
      · replace h := h.1 c16
        refine gg_iconst (v := 0) hG dX7_does_36 (by decide) ?_
        exact m_X7_does_c37 hG kt0 h
      · replace h := h.2 c16
        refine gg_iconst (v := 1) hG dX7_does_23 (by decide) ?_
        refine gg_aload_n hG dX7_does_24 rfl rfl ?_
        refine gg_get (v := .ref 7) hG dX7_does_25 (by decide) rfl fl_RX7_9 rfl ?_
        refine gg_iconst (v := 4) hG dX7_does_28 (by decide) ?_
        refine gg_iald (j := 4) hG dX7_does_29 (by decide) rfl (gg_vin (by decide +kernel)) (by decide) ?_
        refine gg_iconst (v := 5) hG dX7_does_30 (by decide) ?_
        refine gg_idiv hG dX7_does_31 (by decide) ?_
        refine gg_iadd hG dX7_does_32 ?_
        refine gg_goto (tgt := 37) hG dX7_does_33 (by decide) ?_
        exact m_X7_does_c37 hG kt0 h
    · replace h := h.2 c15
      refine gg_mk hG [false, false, false, false] rfl ?_
      exact m_X7_does_c16 hG h
theorem mt_X7_does {t0 : Nat} {a2 : Int32} (kt0 : gg_kd t0 = 7) {u : gg_M} {Q : Int32 → gg_M → Prop} (h : w_X7_does t0 a2 u Q) : gg_Mt 3 yX7_does cX7_does 4 (some .int) [.ref t0, .ref 6, .int a2] u (gg_eI Q) :=
  gg_intro (own := RX7) (by decide +kernel) rfl rfl (Nat.le_of_ble_eq_true rfl) (fun G hG => m_X7_does hG kt0 h)
/-! X7_pack -/
def w_X7_pack_c12 (t0 : Nat) (z0 : Int64) (u : gg_M)  (Q : Int64 → gg_M → Prop) : Prop :=
  ∀ v1 : Int64, v1 = ((gu_lshl z0 8) ||| (u.1 t0 6).toInt64) →
  ∀ v2 : Int64, v2 = ((gu_lshl v1 8) ||| (u.1 t0 5).toInt64) →
  ∀ v3 : Int64, v3 = ((gu_lshl v2 8) ||| (u.1 t0 4).toInt64) →
  ∀ v4 : Int64, v4 = ((gu_lshl v3 8) ||| (u.1 t0 3).toInt64) →
  ∀ v5 : Int64, v5 = ((gu_lshl v4 8) ||| (u.1 t0 2).toInt64) →
  ∀ v6 : Int64, v6 = ((gu_lshl v5 8) ||| (u.1 t0 1).toInt64) →
  Q ((gu_lshl v6 8) ||| (u.1 t0 0).toInt64) u
set_option maxRecDepth 10000 in
theorem m_X7_pack_c12 {t0 : Nat} {z0 : Int64} {u : gg_M}  {G : gg_T} {Q : Int64 → gg_M → Prop} (hG : gg_Cl none cX7_pack 3 RX7 (some .long) 1 (gg_eJ Q) G) (kt0 : gg_kd t0 = 7) (h : w_X7_pack_c12 t0 z0 u  Q)   : G 12 [some (.ref t0), none, none] [.long z0] u := by
  unfold w_X7_pack_c12 at h
  refine gg_lstore_n (L1 := [some (.ref t0), some (.long z0), none]) hG dX7_pack_12 rfl (by decide) rfl ?_
  refine gg_lload_n hG dX7_pack_13 rfl rfl ?_
  refine gg_bipush (v := 8) hG dX7_pack_14 (by decide) ?_
  refine gg_lshl hG dX7_pack_16 ?_
  refine gg_aload_n hG dX7_pack_17 rfl rfl ?_
  refine gg_get (v := .int (u.1 t0 6)) hG dX7_pack_18 (gg_kd_lt kt0 (by decide)) kt0 fl_RX7_36 (gg_fvI kt0 rfl) ?_
  refine gg_i2l hG dX7_pack_21 ?_
  refine gg_lor hG dX7_pack_22 ?_
  refine gg_nl (fun v1 e1 => ?_)
  replace h := h v1 e1
  refine gg_lstore_n (L1 := [some (.ref t0), some (.long v1), none]) hG dX7_pack_23 rfl (by decide) rfl ?_
  refine gg_lload_n hG dX7_pack_24 rfl rfl ?_
  refine gg_bipush (v := 8) hG dX7_pack_25 (by decide) ?_
  refine gg_lshl hG dX7_pack_27 ?_
  refine gg_aload_n hG dX7_pack_28 rfl rfl ?_
  refine gg_get (v := .int (u.1 t0 5)) hG dX7_pack_29 (gg_kd_lt kt0 (by decide)) kt0 fl_RX7_33 (gg_fvI kt0 rfl) ?_
  refine gg_i2l hG dX7_pack_32 ?_
  refine gg_lor hG dX7_pack_33 ?_
  refine gg_nl (fun v2 e2 => ?_)
  replace h := h v2 e2
  refine gg_lstore_n (L1 := [some (.ref t0), some (.long v2), none]) hG dX7_pack_34 rfl (by decide) rfl ?_
  refine gg_lload_n hG dX7_pack_35 rfl rfl ?_
  refine gg_bipush (v := 8) hG dX7_pack_36 (by decide) ?_
  refine gg_lshl hG dX7_pack_38 ?_
  refine gg_aload_n hG dX7_pack_39 rfl rfl ?_
  refine gg_get (v := .int (u.1 t0 4)) hG dX7_pack_40 (gg_kd_lt kt0 (by decide)) kt0 fl_RX7_30 (gg_fvI kt0 rfl) ?_
  refine gg_i2l hG dX7_pack_43 ?_
  refine gg_lor hG dX7_pack_44 ?_
  refine gg_nl (fun v3 e3 => ?_)
  replace h := h v3 e3
  refine gg_lstore_n (L1 := [some (.ref t0), some (.long v3), none]) hG dX7_pack_45 rfl (by decide) rfl ?_
  refine gg_lload_n hG dX7_pack_46 rfl rfl ?_
  refine gg_bipush (v := 8) hG dX7_pack_47 (by decide) ?_
  refine gg_lshl hG dX7_pack_49 ?_
  refine gg_aload_n hG dX7_pack_50 rfl rfl ?_
  refine gg_get (v := .int (u.1 t0 3)) hG dX7_pack_51 (gg_kd_lt kt0 (by decide)) kt0 fl_RX7_27 (gg_fvI kt0 rfl) ?_
  refine gg_i2l hG dX7_pack_54 ?_
  refine gg_lor hG dX7_pack_55 ?_
  refine gg_nl (fun v4 e4 => ?_)
  replace h := h v4 e4
  refine gg_lstore_n (L1 := [some (.ref t0), some (.long v4), none]) hG dX7_pack_56 rfl (by decide) rfl ?_
  refine gg_lload_n hG dX7_pack_57 rfl rfl ?_
  refine gg_bipush (v := 8) hG dX7_pack_58 (by decide) ?_
  refine gg_lshl hG dX7_pack_60 ?_
  refine gg_aload_n hG dX7_pack_61 rfl rfl ?_
  refine gg_get (v := .int (u.1 t0 2)) hG dX7_pack_62 (gg_kd_lt kt0 (by decide)) kt0 fl_RX7_24 (gg_fvI kt0 rfl) ?_
  refine gg_i2l hG dX7_pack_65 ?_
  refine gg_lor hG dX7_pack_66 ?_
  refine gg_nl (fun v5 e5 => ?_)
  replace h := h v5 e5
  refine gg_lstore_n (L1 := [some (.ref t0), some (.long v5), none]) hG dX7_pack_67 rfl (by decide) rfl ?_
  refine gg_lload_n hG dX7_pack_68 rfl rfl ?_
  refine gg_bipush (v := 8) hG dX7_pack_69 (by decide) ?_
  refine gg_lshl hG dX7_pack_71 ?_
  refine gg_aload_n hG dX7_pack_72 rfl rfl ?_
  refine gg_get (v := .int (u.1 t0 1)) hG dX7_pack_73 (gg_kd_lt kt0 (by decide)) kt0 fl_RX7_21 (gg_fvI kt0 rfl) ?_
  refine gg_i2l hG dX7_pack_76 ?_
  refine gg_lor hG dX7_pack_77 ?_
  refine gg_nl (fun v6 e6 => ?_)
  replace h := h v6 e6
  refine gg_lstore_n (L1 := [some (.ref t0), some (.long v6), none]) hG dX7_pack_78 rfl (by decide) rfl ?_
  refine gg_lload_n hG dX7_pack_79 rfl rfl ?_
  refine gg_bipush (v := 8) hG dX7_pack_80 (by decide) ?_
  refine gg_lshl hG dX7_pack_82 ?_
  refine gg_aload_n hG dX7_pack_83 rfl rfl ?_
  refine gg_get (v := .int (u.1 t0 0)) hG dX7_pack_84 (gg_kd_lt kt0 (by decide)) kt0 fl_RX7_15 (gg_fvI kt0 rfl) ?_
  refine gg_i2l hG dX7_pack_87 ?_
  refine gg_lor hG dX7_pack_88 ?_
  exact gg_lret hG dX7_pack_89 rfl ⟨_, rfl, h⟩
def w_X7_pack (t0 : Nat) (u : gg_M)  (Q : Int64 → gg_M → Prop) : Prop :=
  ((u.1 t0 7) = 0 →
   w_X7_pack_c12 t0 0 u Q) ∧
  (¬ (u.1 t0 7) = 0 →
   w_X7_pack_c12 t0 1 u Q)
set_option maxRecDepth 10000 in
theorem m_X7_pack {t0 : Nat} {u : gg_M}  {G : gg_T} {Q : Int64 → gg_M → Prop} (hG : gg_Cl none cX7_pack 3 RX7 (some .long) 1 (gg_eJ Q) G) (kt0 : gg_kd t0 = 7) (h : w_X7_pack t0 u  Q)   : G 0 [some (.ref t0), none, none] [] u := by
  unfold w_X7_pack at h
  refine gg_aload_n hG dX7_pack_0 rfl rfl ?_
  refine gg_get (v := .int (u.1 t0 7)) hG dX7_pack_1 (gg_kd_lt kt0 (by decide)) kt0 fl_RX7_39 (gg_fvI kt0 rfl) ?_
  refine gg_if_eq (tgt := 11) hG dX7_pack_4 (by decide) (fun c7 => ?_) (fun c7 => ?_)
  · replace h := h.1 c7
    refine gg_lconst (v := 0) hG dX7_pack_11 (by decide) ?_
    exact m_X7_pack_c12 hG kt0 h
  · replace h := h.2 c7
    refine gg_lconst (v := 1) hG dX7_pack_7 (by decide) ?_
    refine gg_goto (tgt := 12) hG dX7_pack_8 (by decide) ?_
    exact m_X7_pack_c12 hG kt0 h
theorem mt_X7_pack {t0 : Nat} (kt0 : gg_kd t0 = 7) {u : gg_M} {Q : Int64 → gg_M → Prop} (h : w_X7_pack t0 u Q) : gg_Mt 1 yX7_pack cX7_pack 3 (some .long) [.ref t0] u (gg_eJ Q) :=
  gg_intro (own := RX7) (by decide +kernel) rfl rfl (Nat.le_of_ble_eq_true rfl) (fun G hG => m_X7_pack hG kt0 h)
/-! X1_learn -/
def w_X1_learn_c224 (z1 : Int32) (u : gg_M)  (Q : gg_M → Prop) : Prop :=
  w_J7_fill_53178 26 z1 u (fun u1 =>
  w_J7_fill_53178 27 (u1.1 15 10) u1 (fun u2 =>
  ∀ u3 : gg_M, u3 = gg_wI u2 15 8 1 →
  Q u3))
set_option maxRecDepth 10000 in
theorem m_X1_learn_c224 {z1 : Int32} {u : gg_M}  {G : gg_T} {Q : gg_M → Prop} (hG : gg_Cl none cX1_learn 8 RX1 none 4 (gg_eV Q) G)  (h : w_X1_learn_c224 z1 u  Q)   : G 224 [some (.ref 15), none, none, none, none, none, none, none] [.int z1, .ref 26] u := by
  unfold w_X1_learn_c224 at h
  refine gg_xs (As := [.ref 26, .int z1]) (st := []) hG dX1_learn_224 ml_RX1_84 Y_J7_fill_53178 YS_J7_fill_53178 (mt_J7_fill_53178 rfl h) rfl (by decide) (Nat.le_of_ble_eq_true rfl) rfl (gg_kv (fun u1 h => ?_))
  refine gg_aload_n hG dX1_learn_227 rfl rfl ?_
  refine gg_get (v := .ref 27) hG dX1_learn_228 (by decide) rfl fl_RX1_30 rfl ?_
  refine gg_aload_n hG dX1_learn_231 rfl rfl ?_
  refine gg_get (v := .int (u1.1 15 10)) hG dX1_learn_232 (by decide) rfl fl_RX1_47 rfl ?_
  refine gg_xs (As := [.ref 27, .int (u1.1 15 10)]) (st := []) hG dX1_learn_235 ml_RX1_84 Y_J7_fill_53178 YS_J7_fill_53178 (mt_J7_fill_53178 rfl h) rfl (by decide) (Nat.le_of_ble_eq_true rfl) rfl (gg_kv (fun u2 h => ?_))
  refine gg_aload_n hG dX1_learn_238 rfl rfl ?_
  refine gg_iconst (v := 1) hG dX1_learn_239 (by decide) ?_
  refine gg_putI hG dX1_learn_240 (by decide) rfl fp_RX1_90 rfl (gg_nb (Or.inr rfl)).1 (gg_nb (Or.inr rfl)).2 ?_
  refine gg_nu (fun u3 eu3 => ?_)
  replace h := h u3 eu3
  exact gg_vret hG dX1_learn_243 rfl ⟨rfl, h⟩
def w_X1_learn_c201 (a5 : Int32) (z0 : Int32) (z1 : Int32) (u : gg_M) (k16 : Int32 × Int32 × gg_M → Prop) (Q : gg_M → Prop) : Prop :=
  ∀ v4 : Int32, v4 = (z0 ||| z1) →
  k16 (v4, (a5 + 1), u)
set_option maxRecDepth 10000 in
theorem m_X1_learn_c201 {a5 : Int32} {z0 : Int32} {z1 : Int32} {u : gg_M} {k16 : Int32 × Int32 × gg_M → Prop} {G : gg_T} {Q : gg_M → Prop} (hG : gg_Cl none cX1_learn 8 RX1 none 4 (gg_eV Q) G)  (h : w_X1_learn_c201 a5 z0 z1 u k16 Q)  (hk16 : ∀ s : Int32 × Int32 × gg_M, k16 s → G 16 [some (.ref 15), some (.ref 6), some (.ref 12), some (.ref 10), some (.int s.1), some (.int s.2.1), none, none] [] s.2.2) : G 201 [some (.ref 15), some (.ref 6), some (.ref 12), some (.ref 10), none, some (.int a5), none, none] [.int z1, .int z0] u := by
  unfold w_X1_learn_c201 at h
  refine gg_ior hG dX1_learn_201 ?_
  refine gg_ni (fun v4 e4 => ?_)
  replace h := h v4 e4
  refine gg_istore (L1 := [some (.ref 15), some (.ref 6), some (.ref 12), some (.ref 10), some (.int v4), some (.int a5), none, none]) hG dX1_learn_202 (by decide) rfl ?_
  refine gg_iinc (v := (a5 + 1)) (L1 := [some (.ref 15), some (.ref 6), some (.ref 12), some (.ref 10), some (.int v4), some (.int (a5 + 1)), none, none]) hG dX1_learn_204 rfl rfl (by decide) rfl ?_
  refine gg_goto (tgt := 16) hG dX1_learn_207 (by decide) ?_
  exact hk16 _ h
def w_X1_learn_c200 (a5 : Int32) (z0 : Int32) (u : gg_M) (k16 : Int32 × Int32 × gg_M → Prop) (Q : gg_M → Prop) : Prop :=
  w_X1_learn_c201 a5 z0 0 u k16 Q
set_option maxRecDepth 10000 in
theorem m_X1_learn_c200 {a5 : Int32} {z0 : Int32} {u : gg_M} {k16 : Int32 × Int32 × gg_M → Prop} {G : gg_T} {Q : gg_M → Prop} (hG : gg_Cl none cX1_learn 8 RX1 none 4 (gg_eV Q) G)  (h : w_X1_learn_c200 a5 z0 u k16 Q)  (hk16 : ∀ s : Int32 × Int32 × gg_M, k16 s → G 16 [some (.ref 15), some (.ref 6), some (.ref 12), some (.ref 10), some (.int s.1), some (.int s.2.1), none, none] [] s.2.2) : G 200 [some (.ref 15), some (.ref 6), some (.ref 12), some (.ref 10), none, some (.int a5), none, none] [.int z0] u := by
  unfold w_X1_learn_c200 at h
  refine gg_iconst (v := 0) hG dX1_learn_200 (by decide) ?_
  exact m_X1_learn_c201 hG h hk16
def w_X1_learn_c170 (a4 : Int32) (a5 : Int32) (z1 : Int32) (z2 : Int32) (u : gg_M) (k16 : Int32 × Int32 × gg_M → Prop) (Q : gg_M → Prop) : Prop :=
  ∀ u5 : gg_M, u5 = gg_wI u 15 9 (z1 ||| z2) →
  vp_in a5 32 ∧
  ((u5.1 17 a5.toNatClampNeg) ≤ 0 →
   w_X1_learn_c200 a5 a4 u5 k16 Q) ∧
  (¬ (u5.1 17 a5.toNatClampNeg) ≤ 0 →
   ((u5.1 29 7) = 0 →
    w_X1_learn_c200 a5 a4 u5 k16 Q) ∧
   (¬ (u5.1 29 7) = 0 →
    w_X1_learn_c201 a5 a4 1 u5 k16 Q))
set_option maxRecDepth 10000 in
theorem m_X1_learn_c170 {a4 : Int32} {a5 : Int32} {z1 : Int32} {z2 : Int32} {u : gg_M} {k16 : Int32 × Int32 × gg_M → Prop} {G : gg_T} {Q : gg_M → Prop} (hG : gg_Cl none cX1_learn 8 RX1 none 4 (gg_eV Q) G)  (h : w_X1_learn_c170 a4 a5 z1 z2 u k16 Q)  (hk16 : ∀ s : Int32 × Int32 × gg_M, k16 s → G 16 [some (.ref 15), some (.ref 6), some (.ref 12), some (.ref 10), some (.int s.1), some (.int s.2.1), none, none] [] s.2.2) : G 170 [some (.ref 15), some (.ref 6), some (.ref 12), some (.ref 10), some (.int a4), some (.int a5), none, none] [.int z2, .int z1, .ref 15] u := by
  unfold w_X1_learn_c170 at h
  refine gg_ior hG dX1_learn_170 ?_
  refine gg_putI hG dX1_learn_171 (by decide) rfl fp_RX1_43 rfl rfl rfl ?_
  refine gg_nu (fun u5 eu5 => ?_)
  replace h := h u5 eu5
  refine gg_iload hG dX1_learn_174 rfl ?_
  refine gg_aload_n hG dX1_learn_176 rfl rfl ?_
  refine gg_get (v := .ref 17) hG dX1_learn_177 (by decide) rfl fl_RX1_15 rfl ?_
  refine gg_iload hG dX1_learn_180 rfl ?_
  obtain ⟨h6, h⟩ := h
  refine gg_iald (j := a5.toNatClampNeg) hG dX1_learn_182 (by decide) rfl h6 rfl ?_
  refine gg_if_le (tgt := 200) hG dX1_learn_183 (by decide) (fun c7 => ?_) (fun c7 => ?_)
  · replace h := h.1 c7
    refine gg_mk hG [true, true, true, true, false, true, false, false] rfl ?_
    exact m_X1_learn_c200 hG h hk16
  · replace h := h.2 c7
    refine gg_aload_n hG dX1_learn_186 rfl rfl ?_
    refine gg_get (v := .ref 29) hG dX1_learn_187 (by decide) rfl fl_RX1_39 rfl ?_
    refine gg_get (v := .int (u5.1 29 7)) hG dX1_learn_190 (by decide) rfl fl_RX1_80 rfl ?_
    refine gg_if_eq (tgt := 200) hG dX1_learn_193 (by decide) (fun c8 => ?_) (fun c8 => ?_)
    · replace h := h.1 c8
      refine gg_mk hG [true, true, true, true, false, true, false, false] rfl ?_
      exact m_X1_learn_c200 hG h hk16
    · replace h := h.2 c8
      refine gg_iconst (v := 1) hG dX1_learn_196 (by decide) ?_
      refine gg_goto (tgt := 201) hG dX1_learn_197 (by decide) ?_
      refine gg_mk hG [true, true, true, true, false, true, false, false] rfl ?_
      exact m_X1_learn_c201 hG h hk16
def w_X1_learn_c130 (a4 : Int32) (a5 : Int32) (z1 : Int32) (z2 : Int32) (u : gg_M) (k16 : Int32 × Int32 × gg_M → Prop) (Q : gg_M → Prop) : Prop :=
  vp_in z1 32 ∧
  ∀ u10 : gg_M, u10 = gg_wI u 17 z1.toNatClampNeg z2 →
  vp_in a5 32 ∧
  ∀ u12 : gg_M, u12 = gg_wI u10 15 10 ((u10.1 15 10) + (u10.1 17 a5.toNatClampNeg)) →
  vp_in a5 32 ∧
  ((u12.1 17 a5.toNatClampNeg) ≤ 0 →
   w_X1_learn_c170 a4 a5 (u12.1 15 9) 0 u12 k16 Q) ∧
  (¬ (u12.1 17 a5.toNatClampNeg) ≤ 0 →
   w_X1_learn_c170 a4 a5 (u12.1 15 9) ((1 : Int32) <<< (a5 &&& 31)) u12 k16 Q)
set_option maxRecDepth 10000 in
theorem m_X1_learn_c130 {a4 : Int32} {a5 : Int32} {z1 : Int32} {z2 : Int32} {u : gg_M} {k16 : Int32 × Int32 × gg_M → Prop} {G : gg_T} {Q : gg_M → Prop} (hG : gg_Cl none cX1_learn 8 RX1 none 4 (gg_eV Q) G)  (h : w_X1_learn_c130 a4 a5 z1 z2 u k16 Q)  (hk16 : ∀ s : Int32 × Int32 × gg_M, k16 s → G 16 [some (.ref 15), some (.ref 6), some (.ref 12), some (.ref 10), some (.int s.1), some (.int s.2.1), none, none] [] s.2.2) : G 130 [some (.ref 15), some (.ref 6), some (.ref 12), some (.ref 10), some (.int a4), some (.int a5), none, none] [.int z2, .int z1, .ref 17] u := by
  unfold w_X1_learn_c130 at h
  obtain ⟨h9, h⟩ := h
  refine gg_iast (j := z1.toNatClampNeg) hG dX1_learn_130 (by decide) rfl h9 rfl ?_
  refine gg_nu (fun u10 eu10 => ?_)
  replace h := h u10 eu10
  refine gg_aload_n hG dX1_learn_131 rfl rfl ?_
  refine gg_dup hG dX1_learn_132 rfl ?_
  refine gg_get (v := .int (u10.1 15 10)) hG dX1_learn_133 (by decide) rfl fl_RX1_47 rfl ?_
  refine gg_aload_n hG dX1_learn_136 rfl rfl ?_
  refine gg_get (v := .ref 17) hG dX1_learn_137 (by decide) rfl fl_RX1_15 rfl ?_
  refine gg_iload hG dX1_learn_140 rfl ?_
  obtain ⟨h11, h⟩ := h
  refine gg_iald (j := a5.toNatClampNeg) hG dX1_learn_142 (by decide) rfl h11 rfl ?_
  refine gg_iadd hG dX1_learn_143 ?_
  refine gg_putI hG dX1_learn_144 (by decide) rfl fp_RX1_47 rfl rfl rfl ?_
  refine gg_nu (fun u12 eu12 => ?_)
  replace h := h u12 eu12
  refine gg_aload_n hG dX1_learn_147 rfl rfl ?_
  refine gg_dup hG dX1_learn_148 rfl ?_
  refine gg_get (v := .int (u12.1 15 9)) hG dX1_learn_149 (by decide) rfl fl_RX1_43 rfl ?_
  refine gg_aload_n hG dX1_learn_152 rfl rfl ?_
  refine gg_get (v := .ref 17) hG dX1_learn_153 (by decide) rfl fl_RX1_15 rfl ?_
  refine gg_iload hG dX1_learn_156 rfl ?_
  obtain ⟨h13, h⟩ := h
  refine gg_iald (j := a5.toNatClampNeg) hG dX1_learn_158 (by decide) rfl h13 rfl ?_
  refine gg_if_le (tgt := 169) hG dX1_learn_159 (by decide) (fun c14 => ?_) (fun c14 => ?_)
  · replace h := h.1 c14
    refine gg_iconst (v := 0) hG dX1_learn_169 (by decide) ?_
    exact m_X1_learn_c170 hG h hk16
  · replace h := h.2 c14
    refine gg_iconst (v := 1) hG dX1_learn_162 (by decide) ?_
    refine gg_iload hG dX1_learn_163 rfl ?_
    refine gg_ishl hG dX1_learn_165 ?_
    refine gg_goto (tgt := 170) hG dX1_learn_166 (by decide) ?_
    exact m_X1_learn_c170 hG h hk16
def w_X1_learn_c94 (a4 : Int32) (a5 : Int32) (a6 : Int32) (u : gg_M) (k16 : Int32 × Int32 × gg_M → Prop) (Q : gg_M → Prop) : Prop :=
  w_X7_pack 29 u (fun v16 u15 =>
  vp_in a5 128 ∧
  ∀ u18 : gg_M, u18 = gg_wL u15 16 a5.toNatClampNeg v16 →
  (a6 = 0 →
   w_X1_learn_c130 a4 a5 a5 0 u18 k16 Q) ∧
  (¬ a6 = 0 →
   w_X0_weightOf a5 (-1) u18 (fun v21 u20 =>
   w_X1_learn_c130 a4 a5 a5 v21 u20 k16 Q)))
set_option maxRecDepth 10000 in
theorem m_X1_learn_c94 {a4 : Int32} {a5 : Int32} {a6 : Int32} {u : gg_M} {k16 : Int32 × Int32 × gg_M → Prop} {G : gg_T} {Q : gg_M → Prop} (hG : gg_Cl none cX1_learn 8 RX1 none 4 (gg_eV Q) G)  (h : w_X1_learn_c94 a4 a5 a6 u k16 Q)  (hk16 : ∀ s : Int32 × Int32 × gg_M, k16 s → G 16 [some (.ref 15), some (.ref 6), some (.ref 12), some (.ref 10), some (.int s.1), some (.int s.2.1), none, none] [] s.2.2) : G 94 [some (.ref 15), some (.ref 6), some (.ref 12), some (.ref 10), some (.int a4), some (.int a5), some (.int a6), none] [] u := by
  unfold w_X1_learn_c94 at h
  refine gg_aload_n hG dX1_learn_94 rfl rfl ?_
  refine gg_get (v := .ref 16) hG dX1_learn_95 (by decide) rfl fl_RX1_9 rfl ?_
  refine gg_iload hG dX1_learn_98 rfl ?_
  refine gg_aload_n hG dX1_learn_100 rfl rfl ?_
  refine gg_get (v := .ref 29) hG dX1_learn_101 (by decide) rfl fl_RX1_39 rfl ?_
  refine gg_xv (As := []) (st := [.int a5, .ref 16]) hG dX1_learn_104 ml_RX1_70 Y_X7_pack YV_X7_pack (by decide) ⟨_, rfl, rfl⟩ (mt_X7_pack rfl h) rfl (by decide) (Nat.le_of_ble_eq_true rfl) rfl (gg_kj (fun v16 u15 h => ?_))
  obtain ⟨h17, h⟩ := h
  refine gg_last (j := a5.toNatClampNeg) hG dX1_learn_107 (by decide) rfl h17 rfl ?_
  refine gg_nu (fun u18 eu18 => ?_)
  replace h := h u18 eu18
  refine gg_aload_n hG dX1_learn_108 rfl rfl ?_
  refine gg_get (v := .ref 17) hG dX1_learn_109 (by decide) rfl fl_RX1_15 rfl ?_
  refine gg_iload hG dX1_learn_112 rfl ?_
  refine gg_iload hG dX1_learn_114 rfl ?_
  refine gg_if_eq (tgt := 129) hG dX1_learn_116 (by decide) (fun c19 => ?_) (fun c19 => ?_)
  · replace h := h.1 c19
    refine gg_iconst (v := 0) hG dX1_learn_129 (by decide) ?_
    refine gg_mk hG [true, true, true, true, true, true, false, false] rfl ?_
    exact m_X1_learn_c130 hG h hk16
  · replace h := h.2 c19
    refine gg_aload_n hG dX1_learn_119 rfl rfl ?_
    refine gg_iload hG dX1_learn_120 rfl ?_
    refine gg_iconst (v := (-1)) hG dX1_learn_122 (by decide) ?_
    refine gg_xv (As := [.int a5, .int (-1)]) (st := [.int a5, .ref 17]) hG dX1_learn_123 ml_RX1_74 Y_X0_weightOf YV_X0_weightOf (by decide) ⟨_, rfl, rfl⟩ (mt_X0_weightOf h) rfl (by decide) (Nat.le_of_ble_eq_true rfl) rfl (gg_ki (fun v21 u20 h => ?_))
    refine gg_goto (tgt := 130) hG dX1_learn_126 (by decide) ?_
    refine gg_mk hG [true, true, true, true, true, true, false, false] rfl ?_
    exact m_X1_learn_c130 hG h hk16
def w_X1_learn_c85 (a4 : Int32) (a5 : Int32) (a7 : Int32) (z0 : Int32) (z1 : Int32) (u : gg_M) (k16 : Int32 × Int32 × gg_M → Prop) (k39 : Int32 × Int32 × gg_M → Prop) (Q : gg_M → Prop) : Prop :=
  ∀ v22 : Int32, v22 = (z0 &&& z1) →
  k39 (v22, (a7 + 1), u)
set_option maxRecDepth 10000 in
theorem m_X1_learn_c85 {a4 : Int32} {a5 : Int32} {a7 : Int32} {z0 : Int32} {z1 : Int32} {u : gg_M} {k16 : Int32 × Int32 × gg_M → Prop} {k39 : Int32 × Int32 × gg_M → Prop} {G : gg_T} {Q : gg_M → Prop} (hG : gg_Cl none cX1_learn 8 RX1 none 4 (gg_eV Q) G)  (h : w_X1_learn_c85 a4 a5 a7 z0 z1 u k16 k39 Q)  (hk16 : ∀ s : Int32 × Int32 × gg_M, k16 s → G 16 [some (.ref 15), some (.ref 6), some (.ref 12), some (.ref 10), some (.int s.1), some (.int s.2.1), none, none] [] s.2.2) (hk39 : ∀ s : Int32 × Int32 × gg_M, k39 s → G 39 [some (.ref 15), some (.ref 6), some (.ref 12), some (.ref 10), some (.int a4), some (.int a5), some (.int s.1), some (.int s.2.1)] [] s.2.2) : G 85 [some (.ref 15), some (.ref 6), some (.ref 12), some (.ref 10), some (.int a4), some (.int a5), none, some (.int a7)] [.int z1, .int z0] u := by
  unfold w_X1_learn_c85 at h
  refine gg_iand hG dX1_learn_85 ?_
  refine gg_ni (fun v22 e22 => ?_)
  replace h := h v22 e22
  refine gg_istore (L1 := [some (.ref 15), some (.ref 6), some (.ref 12), some (.ref 10), some (.int a4), some (.int a5), some (.int v22), some (.int a7)]) hG dX1_learn_86 (by decide) rfl ?_
  refine gg_iinc (v := (a7 + 1)) (L1 := [some (.ref 15), some (.ref 6), some (.ref 12), some (.ref 10), some (.int a4), some (.int a5), some (.int v22), some (.int (a7 + 1))]) hG dX1_learn_88 rfl rfl (by decide) rfl ?_
  refine gg_goto (tgt := 39) hG dX1_learn_91 (by decide) ?_
  exact hk39 _ h
def b_X1_learn_c39 (a4 : Int32) (a5 : Int32) (a6 : Int32) (a7 : Int32) (u : gg_M) (k16 : Int32 × Int32 × gg_M → Prop) (k39 : Int32 × Int32 × gg_M → Prop) (Q : gg_M → Prop) : Prop :=
  ((u.1 12 2) ≤ a7 →
   w_X1_learn_c94 a4 a5 a6 u k16 Q) ∧
  (¬ (u.1 12 2) ≤ a7 →
   (24 ≤ a7 →
    w_X1_learn_c94 a4 a5 a6 u k16 Q) ∧
   (¬ 24 ≤ a7 →
    w_X2_actAt a7 u (fun v26 u25 =>
    w_X7_does 29 v26 u25 (fun v28 u27 =>
    w_X2_signAt a7 u27 (fun v30 u29 =>
    (¬ v28 = v30 →
     w_X1_learn_c85 a4 a5 a7 a6 0 u29 k16 k39 Q) ∧
    (v28 = v30 →
     w_X1_learn_c85 a4 a5 a7 a6 1 u29 k16 k39 Q))))))
set_option maxRecDepth 10000 in
theorem mb_X1_learn_c39 {a4 : Int32} {a5 : Int32} {a6 : Int32} {a7 : Int32} {u : gg_M} {k16 : Int32 × Int32 × gg_M → Prop} {k39 : Int32 × Int32 × gg_M → Prop} {G : gg_T} {Q : gg_M → Prop} (hG : gg_Cl none cX1_learn 8 RX1 none 4 (gg_eV Q) G)  (h : b_X1_learn_c39 a4 a5 a6 a7 u k16 k39 Q)  (hk16 : ∀ s : Int32 × Int32 × gg_M, k16 s → G 16 [some (.ref 15), some (.ref 6), some (.ref 12), some (.ref 10), some (.int s.1), some (.int s.2.1), none, none] [] s.2.2) (hk39 : ∀ s : Int32 × Int32 × gg_M, k39 s → G 39 [some (.ref 15), some (.ref 6), some (.ref 12), some (.ref 10), some (.int a4), some (.int a5), some (.int s.1), some (.int s.2.1)] [] s.2.2) : G 39 [some (.ref 15), some (.ref 6), some (.ref 12), some (.ref 10), some (.int a4), some (.int a5), some (.int a6), some (.int a7)] [] u := by
  unfold b_X1_learn_c39 at h
  refine gg_iload hG dX1_learn_39 rfl ?_
  refine gg_aload_n hG dX1_learn_41 rfl rfl ?_
  refine gg_get (v := .int (u.1 12 2)) hG dX1_learn_42 (by decide) rfl fl_RX1_54 rfl ?_
  refine gg_ic_ge (tgt := 94) hG dX1_learn_45 (by decide) (fun c23 => ?_) (fun c23 => ?_)
  · replace h := h.1 c23
    refine gg_mk hG [true, true, true, true, true, true, true, false] rfl ?_
    exact m_X1_learn_c94 hG h hk16
  · replace h := h.2 c23
    refine gg_iload hG dX1_learn_48 rfl ?_
    refine gg_bipush (v := 24) hG dX1_learn_50 (by decide) ?_
    refine gg_ic_ge (tgt := 94) hG dX1_learn_52 (by decide) (fun c24 => ?_) (fun c24 => ?_)
    · replace h := h.1 c24
      refine gg_mk hG [true, true, true, true, true, true, true, false] rfl ?_
      exact m_X1_learn_c94 hG h hk16
    · replace h := h.2 c24
      refine gg_iload hG dX1_learn_55 rfl ?_
      refine gg_aload_n hG dX1_learn_57 rfl rfl ?_
      refine gg_get (v := .ref 29) hG dX1_learn_58 (by decide) rfl fl_RX1_39 rfl ?_
      refine gg_aload_n hG dX1_learn_61 rfl rfl ?_
      refine gg_aload_n hG dX1_learn_62 rfl rfl ?_
      refine gg_iload hG dX1_learn_63 rfl ?_
      refine gg_xv (As := [.int a7]) (st := [.ref 6, .ref 29, .int a6]) hG dX1_learn_65 ml_RX1_59 Y_X2_actAt YV_X2_actAt (by decide) ⟨_, rfl, rfl⟩ (mt_X2_actAt h) rfl (by decide) (Nat.le_of_ble_eq_true rfl) rfl (gg_ki (fun v26 u25 h => ?_))
      refine gg_xv (As := [.ref 6, .int v26]) (st := [.int a6]) hG dX1_learn_68 ml_RX1_63 Y_X7_does YV_X7_does (by decide) ⟨_, rfl, rfl⟩ (mt_X7_does rfl h) rfl (by decide) (Nat.le_of_ble_eq_true rfl) rfl (gg_ki (fun v28 u27 h => ?_))
      refine gg_aload_n hG dX1_learn_71 rfl rfl ?_
      refine gg_iload hG dX1_learn_72 rfl ?_
      refine gg_xv (As := [.int a7]) (st := [.int v28, .int a6]) hG dX1_learn_74 ml_RX1_67 Y_X2_signAt YV_X2_signAt (by decide) ⟨_, rfl, rfl⟩ (mt_X2_signAt h) rfl (by decide) (Nat.le_of_ble_eq_true rfl) rfl (gg_ki (fun v30 u29 h => ?_))
      refine gg_ic_ne (tgt := 84) hG dX1_learn_77 (by decide) (fun c31 => ?_) (fun c31 => ?_)
      · replace h := h.1 c31
        refine gg_iconst (v := 0) hG dX1_learn_84 (by decide) ?_
        refine gg_mk hG [true, true, true, true, true, true, false, true] rfl ?_
        exact m_X1_learn_c85 hG h hk16 hk39
      · replace h := h.2 c31
        refine gg_iconst (v := 1) hG dX1_learn_80 (by decide) ?_
        refine gg_goto (tgt := 85) hG dX1_learn_81 (by decide) ?_
        refine gg_mk hG [true, true, true, true, true, true, false, true] rfl ?_
        exact m_X1_learn_c85 hG h hk16 hk39
def w_X1_learn_c39 (a4 : Int32) (a5 : Int32) (a6 : Int32) (a7 : Int32) (u : gg_M) (k16 : Int32 × Int32 × gg_M → Prop) (Q : gg_M → Prop) : Prop :=
  gg_loop (fun (s : Int32 × Int32 × gg_M) k39 => b_X1_learn_c39 a4 a5 s.1 s.2.1 s.2.2 k16 k39 Q) (a6, a7, u)
set_option maxRecDepth 10000 in
theorem m_X1_learn_c39 {a4 : Int32} {a5 : Int32} {a6 : Int32} {a7 : Int32} {u : gg_M} {k16 : Int32 × Int32 × gg_M → Prop} {G : gg_T} {Q : gg_M → Prop} (hG : gg_Cl none cX1_learn 8 RX1 none 4 (gg_eV Q) G)  (h : w_X1_learn_c39 a4 a5 a6 a7 u k16 Q)  (hk16 : ∀ s : Int32 × Int32 × gg_M, k16 s → G 16 [some (.ref 15), some (.ref 6), some (.ref 12), some (.ref 10), some (.int s.1), some (.int s.2.1), none, none] [] s.2.2) : G 39 [some (.ref 15), some (.ref 6), some (.ref 12), some (.ref 10), some (.int a4), some (.int a5), some (.int a6), some (.int a7)] [] u :=
  gg_loop_use (P := fun s : Int32 × Int32 × gg_M => G 39 [some (.ref 15), some (.ref 6), some (.ref 12), some (.ref 10), some (.int a4), some (.int a5), some (.int s.1), some (.int s.2.1)] [] s.2.2) h (fun s rc hb hr => mb_X1_learn_c39 hG  hb  hk16 hr)
def b_X1_learn_c16  (a4 : Int32) (a5 : Int32) (u : gg_M)  (k16 : Int32 × Int32 × gg_M → Prop) (Q : gg_M → Prop) : Prop :=
  (32 ≤ a5 →
   (a4 = 0 →
    w_X1_learn_c224 (-1) u Q) ∧
   (¬ a4 = 0 →
    w_X1_learn_c224 0 u Q)) ∧
  (¬ 32 ≤ a5 →
   w_X7_begin 29 a5 u (fun u34 =>
   w_X1_learn_c39 a4 a5 1 0 u34 k16 Q))
set_option maxRecDepth 10000 in
theorem mb_X1_learn_c16  {a4 : Int32} {a5 : Int32} {u : gg_M}  {k16 : Int32 × Int32 × gg_M → Prop} {G : gg_T} {Q : gg_M → Prop} (hG : gg_Cl none cX1_learn 8 RX1 none 4 (gg_eV Q) G)  (h : b_X1_learn_c16 a4 a5 u k16 Q)   (hk16 : ∀ s : Int32 × Int32 × gg_M, k16 s → G 16 [some (.ref 15), some (.ref 6), some (.ref 12), some (.ref 10), some (.int s.1), some (.int s.2.1), none, none] [] s.2.2) : G 16 [some (.ref 15), some (.ref 6), some (.ref 12), some (.ref 10), some (.int a4), some (.int a5), none, none] [] u := by
  unfold b_X1_learn_c16 at h
  refine gg_iload hG dX1_learn_16 rfl ?_
  refine gg_bipush (v := 32) hG dX1_learn_18 (by decide) ?_
  refine gg_ic_ge (tgt := 210) hG dX1_learn_20 (by decide) (fun c32 => ?_) (fun c32 => ?_)
  · replace h := h.1 c32
    refine gg_aload_n hG dX1_learn_210 rfl rfl ?_
    refine gg_get (v := .ref 26) hG dX1_learn_211 (by decide) rfl fl_RX1_27 rfl ?_
    refine gg_iload hG dX1_learn_214 rfl ?_
    refine gg_if_eq (tgt := 223) hG dX1_learn_216 (by decide) (fun c33 => ?_) (fun c33 => ?_)
    · replace h := h.1 c33
      refine gg_iconst (v := (-1)) hG dX1_learn_223 (by decide) ?_
      refine gg_mk hG [true, false, false, false, false, false, false, false] rfl ?_
      exact m_X1_learn_c224 hG h
    · replace h := h.2 c33
      refine gg_iconst (v := 0) hG dX1_learn_219 (by decide) ?_
      refine gg_goto (tgt := 224) hG dX1_learn_220 (by decide) ?_
      refine gg_mk hG [true, false, false, false, false, false, false, false] rfl ?_
      exact m_X1_learn_c224 hG h
  · replace h := h.2 c32
    refine gg_iconst (v := 1) hG dX1_learn_23 (by decide) ?_
    refine gg_istore (L1 := [some (.ref 15), some (.ref 6), some (.ref 12), some (.ref 10), some (.int a4), some (.int a5), some (.int 1), none]) hG dX1_learn_24 (by decide) rfl ?_
    refine gg_aload_n hG dX1_learn_26 rfl rfl ?_
    refine gg_get (v := .ref 29) hG dX1_learn_27 (by decide) rfl fl_RX1_39 rfl ?_
    refine gg_aload_n hG dX1_learn_30 rfl rfl ?_
    refine gg_iload hG dX1_learn_31 rfl ?_
    refine gg_xv (As := [.ref 6, .int a5]) (st := []) hG dX1_learn_33 ml_RX1_50 Y_X7_begin YV_X7_begin (by decide) ⟨_, rfl, rfl⟩ (mt_X7_begin rfl h) rfl (by decide) (Nat.le_of_ble_eq_true rfl) rfl (gg_kv (fun u34 h => ?_))
    refine gg_iconst (v := 0) hG dX1_learn_36 (by decide) ?_
    refine gg_istore (L1 := [some (.ref 15), some (.ref 6), some (.ref 12), some (.ref 10), some (.int a4), some (.int a5), some (.int 1), some (.int 0)]) hG dX1_learn_37 (by decide) rfl ?_
    exact m_X1_learn_c39 hG h hk16
def w_X1_learn_c16 (a4 : Int32) (a5 : Int32) (u : gg_M)  (Q : gg_M → Prop) : Prop :=
  gg_loop (fun (s : Int32 × Int32 × gg_M) k16 => b_X1_learn_c16  s.1 s.2.1 s.2.2  k16 Q) (a4, a5, u)
set_option maxRecDepth 10000 in
theorem m_X1_learn_c16 {a4 : Int32} {a5 : Int32} {u : gg_M}  {G : gg_T} {Q : gg_M → Prop} (hG : gg_Cl none cX1_learn 8 RX1 none 4 (gg_eV Q) G)  (h : w_X1_learn_c16 a4 a5 u  Q)   : G 16 [some (.ref 15), some (.ref 6), some (.ref 12), some (.ref 10), some (.int a4), some (.int a5), none, none] [] u :=
  gg_loop_use (P := fun s : Int32 × Int32 × gg_M => G 16 [some (.ref 15), some (.ref 6), some (.ref 12), some (.ref 10), some (.int s.1), some (.int s.2.1), none, none] [] s.2.2) h (fun s rc hb hr => mb_X1_learn_c16 hG  hb   hr)
def w_X1_learn  (u : gg_M)  (Q : gg_M → Prop) : Prop :=
  ∀ u35 : gg_M, u35 = gg_wI u 15 9 0 →
  ∀ u36 : gg_M, u36 = gg_wI u35 15 10 0 →
  w_X1_learn_c16 0 0 u36 Q
set_option maxRecDepth 10000 in
theorem m_X1_learn  {u : gg_M}  {G : gg_T} {Q : gg_M → Prop} (hG : gg_Cl none cX1_learn 8 RX1 none 4 (gg_eV Q) G)  (h : w_X1_learn  u  Q)   : G 0 [some (.ref 15), some (.ref 6), some (.ref 12), some (.ref 10), none, none, none, none] [] u := by
  unfold w_X1_learn at h
  refine gg_aload_n hG dX1_learn_0 rfl rfl ?_
  refine gg_iconst (v := 0) hG dX1_learn_1 (by decide) ?_
  refine gg_putI hG dX1_learn_2 (by decide) rfl fp_RX1_43 rfl rfl rfl ?_
  refine gg_nu (fun u35 eu35 => ?_)
  replace h := h u35 eu35
  refine gg_aload_n hG dX1_learn_5 rfl rfl ?_
  refine gg_iconst (v := 0) hG dX1_learn_6 (by decide) ?_
  refine gg_putI hG dX1_learn_7 (by decide) rfl fp_RX1_47 rfl rfl rfl ?_
  refine gg_nu (fun u36 eu36 => ?_)
  replace h := h u36 eu36
  refine gg_iconst (v := 0) hG dX1_learn_10 (by decide) ?_
  refine gg_istore (L1 := [some (.ref 15), some (.ref 6), some (.ref 12), some (.ref 10), some (.int 0), none, none, none]) hG dX1_learn_11 (by decide) rfl ?_
  refine gg_iconst (v := 0) hG dX1_learn_13 (by decide) ?_
  refine gg_istore (L1 := [some (.ref 15), some (.ref 6), some (.ref 12), some (.ref 10), some (.int 0), some (.int 0), none, none]) hG dX1_learn_14 (by decide) rfl ?_
  exact m_X1_learn_c16 hG h
theorem mt_X1_learn   {u : gg_M} {Q : gg_M → Prop} (h : w_X1_learn  u Q) : gg_Mt 4 yX1_learn cX1_learn 8 none [.ref 15, .ref 6, .ref 12, .ref 10] u (gg_eV Q) :=
  gg_intro (own := RX1) (by decide +kernel) rfl rfl (Nat.le_of_ble_eq_true rfl) (fun G hG => m_X1_learn hG  h)
/-! X1_weightWith -/
def b_X1_weightWith_c4 (a1 : Int32) (a2 : Int32) (a3 : Int32) (u : gg_M)  (k4 : Int32 × Int32 × gg_M → Prop) (Q : Int32 → gg_M → Prop) : Prop :=
  (32 ≤ a3 →
   Q a2 u) ∧
  (¬ 32 ≤ a3 →
   vp_in a3 32 ∧
   ∀ v3 : Int32, v3 = (a2 + (((gu_ushr a3 a1) &&& 1) * (u.1 17 a3.toNatClampNeg))) →
   k4 (v3, (a3 + 1), u))
set_option maxRecDepth 10000 in
theorem mb_X1_weightWith_c4 {a1 : Int32} {a2 : Int32} {a3 : Int32} {u : gg_M}  {k4 : Int32 × Int32 × gg_M → Prop} {G : gg_T} {Q : Int32 → gg_M → Prop} (hG : gg_Cl none cX1_weightWith 4 RX1 (some .int) 1 (gg_eI Q) G)  (h : b_X1_weightWith_c4 a1 a2 a3 u k4 Q)   (hk4 : ∀ s : Int32 × Int32 × gg_M, k4 s → G 4 [some (.ref 15), some (.int a1), some (.int s.1), some (.int s.2.1)] [] s.2.2) : G 4 [some (.ref 15), some (.int a1), some (.int a2), some (.int a3)] [] u := by
  unfold b_X1_weightWith_c4 at h
  refine gg_iload_n hG dX1_weightWith_4 rfl rfl ?_
  refine gg_bipush (v := 32) hG dX1_weightWith_5 (by decide) ?_
  refine gg_ic_ge (tgt := 31) hG dX1_weightWith_7 (by decide) (fun c1 => ?_) (fun c1 => ?_)
  · replace h := h.1 c1
    refine gg_iload_n hG dX1_weightWith_31 rfl rfl ?_
    exact gg_iret hG dX1_weightWith_32 rfl rfl ⟨_, rfl, h⟩
  · replace h := h.2 c1
    refine gg_iload_n hG dX1_weightWith_10 rfl rfl ?_
    refine gg_iload_n hG dX1_weightWith_11 rfl rfl ?_
    refine gg_iload_n hG dX1_weightWith_12 rfl rfl ?_
    refine gg_iushr hG dX1_weightWith_13 ?_
    refine gg_iconst (v := 1) hG dX1_weightWith_14 (by decide) ?_
    refine gg_iand hG dX1_weightWith_15 ?_
    refine gg_aload_n hG dX1_weightWith_16 rfl rfl ?_
    refine gg_get (v := .ref 17) hG dX1_weightWith_17 (by decide) rfl fl_RX1_15 rfl ?_
    refine gg_iload_n hG dX1_weightWith_20 rfl rfl ?_
    obtain ⟨h2, h⟩ := h
    refine gg_iald (j := a3.toNatClampNeg) hG dX1_weightWith_21 (by decide) rfl h2 rfl ?_
    refine gg_imul hG dX1_weightWith_22 ?_
    refine gg_iadd hG dX1_weightWith_23 ?_
    refine gg_ni (fun v3 e3 => ?_)
    replace h := h v3 e3
    refine gg_istore_n (L1 := [some (.ref 15), some (.int a1), some (.int v3), some (.int a3)]) hG dX1_weightWith_24 rfl (by decide) rfl ?_
    refine gg_iinc (v := (a3 + 1)) (L1 := [some (.ref 15), some (.int a1), some (.int v3), some (.int (a3 + 1))]) hG dX1_weightWith_25 rfl rfl (by decide) rfl ?_
    refine gg_goto (tgt := 4) hG dX1_weightWith_28 (by decide) ?_
    exact hk4 _ h
def w_X1_weightWith_c4 (a1 : Int32) (a2 : Int32) (a3 : Int32) (u : gg_M)  (Q : Int32 → gg_M → Prop) : Prop :=
  gg_loop (fun (s : Int32 × Int32 × gg_M) k4 => b_X1_weightWith_c4 a1 s.1 s.2.1 s.2.2  k4 Q) (a2, a3, u)
set_option maxRecDepth 10000 in
theorem m_X1_weightWith_c4 {a1 : Int32} {a2 : Int32} {a3 : Int32} {u : gg_M}  {G : gg_T} {Q : Int32 → gg_M → Prop} (hG : gg_Cl none cX1_weightWith 4 RX1 (some .int) 1 (gg_eI Q) G)  (h : w_X1_weightWith_c4 a1 a2 a3 u  Q)   : G 4 [some (.ref 15), some (.int a1), some (.int a2), some (.int a3)] [] u :=
  gg_loop_use (P := fun s : Int32 × Int32 × gg_M => G 4 [some (.ref 15), some (.int a1), some (.int s.1), some (.int s.2.1)] [] s.2.2) h (fun s rc hb hr => mb_X1_weightWith_c4 hG  hb   hr)
def w_X1_weightWith (a1 : Int32) (u : gg_M)  (Q : Int32 → gg_M → Prop) : Prop :=
  w_X1_weightWith_c4 a1 0 0 u Q
set_option maxRecDepth 10000 in
theorem m_X1_weightWith {a1 : Int32} {u : gg_M}  {G : gg_T} {Q : Int32 → gg_M → Prop} (hG : gg_Cl none cX1_weightWith 4 RX1 (some .int) 1 (gg_eI Q) G)  (h : w_X1_weightWith a1 u  Q)   : G 0 [some (.ref 15), some (.int a1), none, none] [] u := by
  unfold w_X1_weightWith at h
  refine gg_iconst (v := 0) hG dX1_weightWith_0 (by decide) ?_
  refine gg_istore_n (L1 := [some (.ref 15), some (.int a1), some (.int 0), none]) hG dX1_weightWith_1 rfl (by decide) rfl ?_
  refine gg_iconst (v := 0) hG dX1_weightWith_2 (by decide) ?_
  refine gg_istore_n (L1 := [some (.ref 15), some (.int a1), some (.int 0), some (.int 0)]) hG dX1_weightWith_3 rfl (by decide) rfl ?_
  exact m_X1_weightWith_c4 hG h
theorem mt_X1_weightWith {a1 : Int32}  {u : gg_M} {Q : Int32 → gg_M → Prop} (h : w_X1_weightWith a1 u Q) : gg_Mt 1 yX1_weightWith cX1_weightWith 4 (some .int) [.ref 15, .int a1] u (gg_eI Q) :=
  gg_intro (own := RX1) (by decide +kernel) rfl rfl (Nat.le_of_ble_eq_true rfl) (fun G hG => m_X1_weightWith hG  h)
/-! X1_heaviestOf -/
def b_X1_heaviestOf_c4 (a1 : Int32) (a2 : Int32) (a3 : Int32) (u : gg_M)  (k4 : Int32 × Int32 × gg_M → Prop) (Q : Int32 → gg_M → Prop) : Prop :=
  (32 ≤ a3 →
   Q a2 u) ∧
  (¬ 32 ≤ a3 →
   vp_in a3 32 ∧
   w_J9_max_7cf53 a2 (((gu_ushr a1 a3) &&& 1) * (u.1 17 a3.toNatClampNeg)) u (fun v4 u3 =>
   k4 (v4, (a3 + 1), u3)))
set_option maxRecDepth 10000 in
theorem mb_X1_heaviestOf_c4 {a1 : Int32} {a2 : Int32} {a3 : Int32} {u : gg_M}  {k4 : Int32 × Int32 × gg_M → Prop} {G : gg_T} {Q : Int32 → gg_M → Prop} (hG : gg_Cl none cX1_heaviestOf 4 RX1 (some .int) 2 (gg_eI Q) G)  (h : b_X1_heaviestOf_c4 a1 a2 a3 u k4 Q)   (hk4 : ∀ s : Int32 × Int32 × gg_M, k4 s → G 4 [some (.ref 15), some (.int a1), some (.int s.1), some (.int s.2.1)] [] s.2.2) : G 4 [some (.ref 15), some (.int a1), some (.int a2), some (.int a3)] [] u := by
  unfold b_X1_heaviestOf_c4 at h
  refine gg_iload_n hG dX1_heaviestOf_4 rfl rfl ?_
  refine gg_bipush (v := 32) hG dX1_heaviestOf_5 (by decide) ?_
  refine gg_ic_ge (tgt := 33) hG dX1_heaviestOf_7 (by decide) (fun c1 => ?_) (fun c1 => ?_)
  · replace h := h.1 c1
    refine gg_iload_n hG dX1_heaviestOf_33 rfl rfl ?_
    exact gg_iret hG dX1_heaviestOf_34 rfl rfl ⟨_, rfl, h⟩
  · replace h := h.2 c1
    refine gg_iload_n hG dX1_heaviestOf_10 rfl rfl ?_
    refine gg_iload_n hG dX1_heaviestOf_11 rfl rfl ?_
    refine gg_iload_n hG dX1_heaviestOf_12 rfl rfl ?_
    refine gg_iushr hG dX1_heaviestOf_13 ?_
    refine gg_iconst (v := 1) hG dX1_heaviestOf_14 (by decide) ?_
    refine gg_iand hG dX1_heaviestOf_15 ?_
    refine gg_aload_n hG dX1_heaviestOf_16 rfl rfl ?_
    refine gg_get (v := .ref 17) hG dX1_heaviestOf_17 (by decide) rfl fl_RX1_15 rfl ?_
    refine gg_iload_n hG dX1_heaviestOf_20 rfl rfl ?_
    obtain ⟨h2, h⟩ := h
    refine gg_iald (j := a3.toNatClampNeg) hG dX1_heaviestOf_21 (by decide) rfl h2 rfl ?_
    refine gg_imul hG dX1_heaviestOf_22 ?_
    refine gg_xs (As := [.int a2, .int (((gu_ushr a1 a3) &&& 1) * (u.1 17 a3.toNatClampNeg))]) (st := []) hG dX1_heaviestOf_23 ml_RX1_93 Y_J9_max_7cf53 YS_J9_max_7cf53 (mt_J9_max_7cf53 h) rfl (by decide) (Nat.le_of_ble_eq_true rfl) rfl (gg_ki (fun v4 u3 h => ?_))
    refine gg_istore_n (L1 := [some (.ref 15), some (.int a1), some (.int v4), some (.int a3)]) hG dX1_heaviestOf_26 rfl (by decide) rfl ?_
    refine gg_iinc (v := (a3 + 1)) (L1 := [some (.ref 15), some (.int a1), some (.int v4), some (.int (a3 + 1))]) hG dX1_heaviestOf_27 rfl rfl (by decide) rfl ?_
    refine gg_goto (tgt := 4) hG dX1_heaviestOf_30 (by decide) ?_
    exact hk4 _ h
def w_X1_heaviestOf_c4 (a1 : Int32) (a2 : Int32) (a3 : Int32) (u : gg_M)  (Q : Int32 → gg_M → Prop) : Prop :=
  gg_loop (fun (s : Int32 × Int32 × gg_M) k4 => b_X1_heaviestOf_c4 a1 s.1 s.2.1 s.2.2  k4 Q) (a2, a3, u)
set_option maxRecDepth 10000 in
theorem m_X1_heaviestOf_c4 {a1 : Int32} {a2 : Int32} {a3 : Int32} {u : gg_M}  {G : gg_T} {Q : Int32 → gg_M → Prop} (hG : gg_Cl none cX1_heaviestOf 4 RX1 (some .int) 2 (gg_eI Q) G)  (h : w_X1_heaviestOf_c4 a1 a2 a3 u  Q)   : G 4 [some (.ref 15), some (.int a1), some (.int a2), some (.int a3)] [] u :=
  gg_loop_use (P := fun s : Int32 × Int32 × gg_M => G 4 [some (.ref 15), some (.int a1), some (.int s.1), some (.int s.2.1)] [] s.2.2) h (fun s rc hb hr => mb_X1_heaviestOf_c4 hG  hb   hr)
def w_X1_heaviestOf (a1 : Int32) (u : gg_M)  (Q : Int32 → gg_M → Prop) : Prop :=
  w_X1_heaviestOf_c4 a1 0 0 u Q
set_option maxRecDepth 10000 in
theorem m_X1_heaviestOf {a1 : Int32} {u : gg_M}  {G : gg_T} {Q : Int32 → gg_M → Prop} (hG : gg_Cl none cX1_heaviestOf 4 RX1 (some .int) 2 (gg_eI Q) G)  (h : w_X1_heaviestOf a1 u  Q)   : G 0 [some (.ref 15), some (.int a1), none, none] [] u := by
  unfold w_X1_heaviestOf at h
  refine gg_iconst (v := 0) hG dX1_heaviestOf_0 (by decide) ?_
  refine gg_istore_n (L1 := [some (.ref 15), some (.int a1), some (.int 0), none]) hG dX1_heaviestOf_1 rfl (by decide) rfl ?_
  refine gg_iconst (v := 0) hG dX1_heaviestOf_2 (by decide) ?_
  refine gg_istore_n (L1 := [some (.ref 15), some (.int a1), some (.int 0), some (.int 0)]) hG dX1_heaviestOf_3 rfl (by decide) rfl ?_
  exact m_X1_heaviestOf_c4 hG h
theorem mt_X1_heaviestOf {a1 : Int32}  {u : gg_M} {Q : Int32 → gg_M → Prop} (h : w_X1_heaviestOf a1 u Q) : gg_Mt 2 yX1_heaviestOf cX1_heaviestOf 4 (some .int) [.ref 15, .int a1] u (gg_eI Q) :=
  gg_intro (own := RX1) (by decide +kernel) rfl rfl (Nat.le_of_ble_eq_true rfl) (fun G hG => m_X1_heaviestOf hG  h)
/-! X7_partOf -/
def w_X7_partOf (a0 : Int64) (a2 : Int32) (u : gg_M)  (Q : Int32 → gg_M → Prop) : Prop :=
  Q ((gu_lushr a0 ((8 : Int32) * a2)).toInt32 &&& 255) u
set_option maxRecDepth 10000 in
theorem m_X7_partOf {a0 : Int64} {a2 : Int32} {u : gg_M}  {G : gg_T} {Q : Int32 → gg_M → Prop} (hG : gg_Cl none cX7_partOf 3 RX7 (some .int) 1 (gg_eI Q) G)  (h : w_X7_partOf a0 a2 u  Q)   : G 0 [some (.long a0), none, some (.int a2)] [] u := by
  unfold w_X7_partOf at h
  refine gg_lload_n hG dX7_partOf_0 rfl rfl ?_
  refine gg_bipush (v := 8) hG dX7_partOf_1 (by decide) ?_
  refine gg_iload_n hG dX7_partOf_3 rfl rfl ?_
  refine gg_imul hG dX7_partOf_4 ?_
  refine gg_lushr hG dX7_partOf_5 ?_
  refine gg_l2i hG dX7_partOf_6 ?_
  refine gg_sipush (v := 255) hG dX7_partOf_7 (by decide) ?_
  refine gg_iand hG dX7_partOf_10 ?_
  exact gg_iret hG dX7_partOf_11 rfl rfl ⟨_, rfl, h⟩
theorem mt_X7_partOf {a0 : Int64} {a2 : Int32}  {u : gg_M} {Q : Int32 → gg_M → Prop} (h : w_X7_partOf a0 a2 u Q) : gg_Mt 1 yX7_partOf cX7_partOf 3 (some .int) [.long a0, .int a2] u (gg_eI Q) :=
  gg_intro (own := RX7) (by decide +kernel) rfl rfl (Nat.le_of_ble_eq_true rfl) (fun G hG => m_X7_partOf hG  h)
/-! X7_unpack -/
def w_X7_unpack_c80 (r0 : Nat) (z1 : Int32) (u : gg_M)  (Q : gg_M → Prop) : Prop :=
  (z1 = 0 ∨ z1 = 1) ∧
  ∀ u2 : gg_M, u2 = gg_wI u r0 7 z1 →
  Q u2
set_option maxRecDepth 10000 in
theorem m_X7_unpack_c80 {r0 : Nat} {z1 : Int32} {u : gg_M}  {G : gg_T} {Q : gg_M → Prop} (hG : gg_Cl none cX7_unpack 3 RX7 none 2 (gg_eV Q) G) (kr0 : gg_kd r0 = 7) (h : w_X7_unpack_c80 r0 z1 u  Q)   : G 80 [none, none, none] [.int z1, .ref r0] u := by
  unfold w_X7_unpack_c80 at h
  obtain ⟨h1, h⟩ := h
  refine gg_putI hG dX7_unpack_80 (gg_kd_lt kr0 (by decide)) kr0 fp_RX7_39 rfl (gg_nb h1).1 (gg_nb h1).2 ?_
  refine gg_nu (fun u2 eu2 => ?_)
  replace h := h u2 eu2
  exact gg_vret hG dX7_unpack_83 rfl ⟨rfl, h⟩
def w_X7_unpack (t0 : Nat) (a1 : Int64) (u : gg_M)  (Q : gg_M → Prop) : Prop :=
  w_X7_partOf a1 0 u (fun v4 u3 =>
  ∀ u5 : gg_M, u5 = gg_wI u3 t0 0 v4 →
  w_X7_partOf a1 1 u5 (fun v7 u6 =>
  ∀ u8 : gg_M, u8 = gg_wI u6 t0 1 v7 →
  w_X7_partOf a1 2 u8 (fun v10 u9 =>
  ∀ u11 : gg_M, u11 = gg_wI u9 t0 2 v10 →
  w_X7_partOf a1 3 u11 (fun v13 u12 =>
  ∀ u14 : gg_M, u14 = gg_wI u12 t0 3 v13 →
  w_X7_partOf a1 4 u14 (fun v16 u15 =>
  ∀ u17 : gg_M, u17 = gg_wI u15 t0 4 v16 →
  w_X7_partOf a1 5 u17 (fun v19 u18 =>
  ∀ u20 : gg_M, u20 = gg_wI u18 t0 5 v19 →
  w_X7_partOf a1 6 u20 (fun v22 u21 =>
  ∀ u23 : gg_M, u23 = gg_wI u21 t0 6 v22 →
  w_X7_partOf a1 7 u23 (fun v25 u24 =>
  (¬ v25 = 1 →
   w_X7_unpack_c80 t0 0 u24 Q) ∧
  (v25 = 1 →
   w_X7_unpack_c80 t0 1 u24 Q)))))))))
set_option maxRecDepth 10000 in
theorem m_X7_unpack {t0 : Nat} {a1 : Int64} {u : gg_M}  {G : gg_T} {Q : gg_M → Prop} (hG : gg_Cl none cX7_unpack 3 RX7 none 2 (gg_eV Q) G) (kt0 : gg_kd t0 = 7) (h : w_X7_unpack t0 a1 u  Q)   : G 0 [some (.ref t0), some (.long a1), none] [] u := by
  unfold w_X7_unpack at h
  refine gg_aload_n hG dX7_unpack_0 rfl rfl ?_
  refine gg_lload_n hG dX7_unpack_1 rfl rfl ?_
  refine gg_iconst (v := 0) hG dX7_unpack_2 (by decide) ?_
  refine gg_xs (As := [.long a1, .int 0]) (st := [.ref t0]) hG dX7_unpack_3 ml_RX7_43 Y_X7_partOf YS_X7_partOf (mt_X7_partOf h) rfl (by decide) (Nat.le_of_ble_eq_true rfl) rfl (gg_ki (fun v4 u3 h => ?_))
  refine gg_putI hG dX7_unpack_6 (gg_kd_lt kt0 (by decide)) kt0 fp_RX7_15 rfl rfl rfl ?_
  refine gg_nu (fun u5 eu5 => ?_)
  replace h := h u5 eu5
  refine gg_aload_n hG dX7_unpack_9 rfl rfl ?_
  refine gg_lload_n hG dX7_unpack_10 rfl rfl ?_
  refine gg_iconst (v := 1) hG dX7_unpack_11 (by decide) ?_
  refine gg_xs (As := [.long a1, .int 1]) (st := [.ref t0]) hG dX7_unpack_12 ml_RX7_43 Y_X7_partOf YS_X7_partOf (mt_X7_partOf h) rfl (by decide) (Nat.le_of_ble_eq_true rfl) rfl (gg_ki (fun v7 u6 h => ?_))
  refine gg_putI hG dX7_unpack_15 (gg_kd_lt kt0 (by decide)) kt0 fp_RX7_21 rfl rfl rfl ?_
  refine gg_nu (fun u8 eu8 => ?_)
  replace h := h u8 eu8
  refine gg_aload_n hG dX7_unpack_18 rfl rfl ?_
  refine gg_lload_n hG dX7_unpack_19 rfl rfl ?_
  refine gg_iconst (v := 2) hG dX7_unpack_20 (by decide) ?_
  refine gg_xs (As := [.long a1, .int 2]) (st := [.ref t0]) hG dX7_unpack_21 ml_RX7_43 Y_X7_partOf YS_X7_partOf (mt_X7_partOf h) rfl (by decide) (Nat.le_of_ble_eq_true rfl) rfl (gg_ki (fun v10 u9 h => ?_))
  refine gg_putI hG dX7_unpack_24 (gg_kd_lt kt0 (by decide)) kt0 fp_RX7_24 rfl rfl rfl ?_
  refine gg_nu (fun u11 eu11 => ?_)
  replace h := h u11 eu11
  refine gg_aload_n hG dX7_unpack_27 rfl rfl ?_
  refine gg_lload_n hG dX7_unpack_28 rfl rfl ?_
  refine gg_iconst (v := 3) hG dX7_unpack_29 (by decide) ?_
  refine gg_xs (As := [.long a1, .int 3]) (st := [.ref t0]) hG dX7_unpack_30 ml_RX7_43 Y_X7_partOf YS_X7_partOf (mt_X7_partOf h) rfl (by decide) (Nat.le_of_ble_eq_true rfl) rfl (gg_ki (fun v13 u12 h => ?_))
  refine gg_putI hG dX7_unpack_33 (gg_kd_lt kt0 (by decide)) kt0 fp_RX7_27 rfl rfl rfl ?_
  refine gg_nu (fun u14 eu14 => ?_)
  replace h := h u14 eu14
  refine gg_aload_n hG dX7_unpack_36 rfl rfl ?_
  refine gg_lload_n hG dX7_unpack_37 rfl rfl ?_
  refine gg_iconst (v := 4) hG dX7_unpack_38 (by decide) ?_
  refine gg_xs (As := [.long a1, .int 4]) (st := [.ref t0]) hG dX7_unpack_39 ml_RX7_43 Y_X7_partOf YS_X7_partOf (mt_X7_partOf h) rfl (by decide) (Nat.le_of_ble_eq_true rfl) rfl (gg_ki (fun v16 u15 h => ?_))
  refine gg_putI hG dX7_unpack_42 (gg_kd_lt kt0 (by decide)) kt0 fp_RX7_30 rfl rfl rfl ?_
  refine gg_nu (fun u17 eu17 => ?_)
  replace h := h u17 eu17
  refine gg_aload_n hG dX7_unpack_45 rfl rfl ?_
  refine gg_lload_n hG dX7_unpack_46 rfl rfl ?_
  refine gg_iconst (v := 5) hG dX7_unpack_47 (by decide) ?_
  refine gg_xs (As := [.long a1, .int 5]) (st := [.ref t0]) hG dX7_unpack_48 ml_RX7_43 Y_X7_partOf YS_X7_partOf (mt_X7_partOf h) rfl (by decide) (Nat.le_of_ble_eq_true rfl) rfl (gg_ki (fun v19 u18 h => ?_))
  refine gg_putI hG dX7_unpack_51 (gg_kd_lt kt0 (by decide)) kt0 fp_RX7_33 rfl rfl rfl ?_
  refine gg_nu (fun u20 eu20 => ?_)
  replace h := h u20 eu20
  refine gg_aload_n hG dX7_unpack_54 rfl rfl ?_
  refine gg_lload_n hG dX7_unpack_55 rfl rfl ?_
  refine gg_bipush (v := 6) hG dX7_unpack_56 (by decide) ?_
  refine gg_xs (As := [.long a1, .int 6]) (st := [.ref t0]) hG dX7_unpack_58 ml_RX7_43 Y_X7_partOf YS_X7_partOf (mt_X7_partOf h) rfl (by decide) (Nat.le_of_ble_eq_true rfl) rfl (gg_ki (fun v22 u21 h => ?_))
  refine gg_putI hG dX7_unpack_61 (gg_kd_lt kt0 (by decide)) kt0 fp_RX7_36 rfl rfl rfl ?_
  refine gg_nu (fun u23 eu23 => ?_)
  replace h := h u23 eu23
  refine gg_aload_n hG dX7_unpack_64 rfl rfl ?_
  refine gg_lload_n hG dX7_unpack_65 rfl rfl ?_
  refine gg_bipush (v := 7) hG dX7_unpack_66 (by decide) ?_
  refine gg_xs (As := [.long a1, .int 7]) (st := [.ref t0]) hG dX7_unpack_68 ml_RX7_43 Y_X7_partOf YS_X7_partOf (mt_X7_partOf h) rfl (by decide) (Nat.le_of_ble_eq_true rfl) rfl (gg_ki (fun v25 u24 h => ?_))
  refine gg_iconst (v := 1) hG dX7_unpack_71 (by decide) ?_
  refine gg_ic_ne (tgt := 79) hG dX7_unpack_72 (by decide) (fun c26 => ?_) (fun c26 => ?_)
  · replace h := h.1 c26
    refine gg_iconst (v := 0) hG dX7_unpack_79 (by decide) ?_
    refine gg_mk hG [false, false, false] rfl ?_
    exact m_X7_unpack_c80 hG kt0 h
  · replace h := h.2 c26
    refine gg_iconst (v := 1) hG dX7_unpack_75 (by decide) ?_
    refine gg_goto (tgt := 80) hG dX7_unpack_76 (by decide) ?_
    refine gg_mk hG [false, false, false] rfl ?_
    exact m_X7_unpack_c80 hG kt0 h
theorem mt_X7_unpack {t0 : Nat} {a1 : Int64} (kt0 : gg_kd t0 = 7) {u : gg_M} {Q : gg_M → Prop} (h : w_X7_unpack t0 a1 u Q) : gg_Mt 2 yX7_unpack cX7_unpack 3 none [.ref t0, .long a1] u (gg_eV Q) :=
  gg_intro (own := RX7) (by decide +kernel) rfl rfl (Nat.le_of_ble_eq_true rfl) (fun G hG => m_X7_unpack hG kt0 h)
/-! X1_part -/
def w_X1_part_c167  (u : gg_M)  (Q : gg_M → Prop) : Prop :=
  Q u
set_option maxRecDepth 10000 in
theorem m_X1_part_c167  {u : gg_M}  {G : gg_T} {Q : gg_M → Prop} (hG : gg_Cl none cX1_part 7 RX1 none 4 (gg_eV Q) G)  (h : w_X1_part_c167  u  Q)   : G 167 [none, none, none, none, none, none, none] [] u := by
  unfold w_X1_part_c167 at h
  exact gg_vret hG dX1_part_167 rfl ⟨rfl, h⟩
def w_X1_part_c161 (a2 : Int32) (a3 : Int32) (a4 : Int32) (a5 : Int32) (u : gg_M) (k35 : Int32 × gg_M → Prop) (Q : gg_M → Prop) : Prop :=
  k35 ((a5 + 1), u)
set_option maxRecDepth 10000 in
theorem m_X1_part_c161 {a2 : Int32} {a3 : Int32} {a4 : Int32} {a5 : Int32} {u : gg_M} {k35 : Int32 × gg_M → Prop} {G : gg_T} {Q : gg_M → Prop} (hG : gg_Cl none cX1_part 7 RX1 none 4 (gg_eV Q) G)  (h : w_X1_part_c161 a2 a3 a4 a5 u k35 Q)  (hk35 : ∀ s : Int32 × gg_M, k35 s → G 35 [some (.ref 15), some (.ref 6), some (.int a2), some (.int a3), some (.int a4), some (.int s.1), none] [] s.2) : G 161 [some (.ref 15), some (.ref 6), some (.int a2), some (.int a3), some (.int a4), some (.int a5), none] [] u := by
  unfold w_X1_part_c161 at h
  refine gg_iinc (v := (a5 + 1)) (L1 := [some (.ref 15), some (.ref 6), some (.int a2), some (.int a3), some (.int a4), some (.int (a5 + 1)), none]) hG dX1_part_161 rfl rfl (by decide) rfl ?_
  refine gg_goto (tgt := 35) hG dX1_part_164 (by decide) ?_
  exact hk35 _ h
def b_X1_part_c35 (a2 : Int32) (a3 : Int32) (a4 : Int32) (a5 : Int32) (u : gg_M)  (k35 : Int32 × gg_M → Prop) (Q : gg_M → Prop) : Prop :=
  (32 ≤ a5 →
   w_X1_part_c167 u Q) ∧
  (¬ 32 ≤ a5 →
   ((gu_ushr a2 a5) = 0 →
    w_X1_part_c167 u Q) ∧
   (¬ (gu_ushr a2 a5) = 0 →
    (¬ ((gu_ushr a2 a5) &&& 1) = 0 →
     vp_in ((a4 * 32) + a5) 128 ∧
     w_X7_unpack 29 (u.2 16 (((a4 * 32) + a5).toNatClampNeg)) u (fun u5 =>
     w_X7_does 29 a3 u5 (fun v7 u6 =>
     w_X7_pack 29 u6 (fun v9 u8 =>
     vp_in (((a4 + 1) * 32) + a5) 128 ∧
     ∀ u11 : gg_M, u11 = gg_wL u8 16 ((((a4 + 1) * 32) + a5).toNatClampNeg) v9 →
     w_X10_isBelow v7 7 u11 (fun v13 u12 =>
     (v13 = 0 →
      w_X1_part_c161 a2 a3 a4 a5 u12 k35 Q) ∧
     (¬ v13 = 0 →
      vp_in a4 3 ∧
      vp_in v7 (gg_al (gg_rf 18 a4.toNatClampNeg)) ∧
      vp_in v7 (gg_al (gg_rf 18 a4.toNatClampNeg)) ∧
      ∀ u18 : gg_M, u18 = gg_wI u12 (gg_rf 18 a4.toNatClampNeg) v7.toNatClampNeg ((u12.1 (gg_rf 18 a4.toNatClampNeg) v7.toNatClampNeg) ||| ((1 : Int32) <<< (a5 &&& 31))) →
      vp_in a4 3 ∧
      vp_in v7 (gg_al (gg_rf 22 a4.toNatClampNeg)) ∧
      vp_in a5 32 ∧
      vp_in v7 (gg_al (gg_rf 22 a4.toNatClampNeg)) ∧
      ∀ u23 : gg_M, u23 = gg_wI u18 (gg_rf 22 a4.toNatClampNeg) v7.toNatClampNeg ((u18.1 (gg_rf 22 a4.toNatClampNeg) v7.toNatClampNeg) + (u18.1 17 a5.toNatClampNeg)) →
      w_X1_part_c161 a2 a3 a4 a5 u23 k35 Q)))))) ∧
    (((gu_ushr a2 a5) &&& 1) = 0 →
     w_X1_part_c161 a2 a3 a4 a5 u k35 Q)))
set_option maxRecDepth 10000 in
theorem mb_X1_part_c35 {a2 : Int32} {a3 : Int32} {a4 : Int32} {a5 : Int32} {u : gg_M}  {k35 : Int32 × gg_M → Prop} {G : gg_T} {Q : gg_M → Prop} (hG : gg_Cl none cX1_part 7 RX1 none 4 (gg_eV Q) G)  (h : b_X1_part_c35 a2 a3 a4 a5 u k35 Q)   (hk35 : ∀ s : Int32 × gg_M, k35 s → G 35 [some (.ref 15), some (.ref 6), some (.int a2), some (.int a3), some (.int a4), some (.int s.1), none] [] s.2) : G 35 [some (.ref 15), some (.ref 6), some (.int a2), some (.int a3), some (.int a4), some (.int a5), none] [] u := by
  unfold b_X1_part_c35 at h
  refine gg_iload hG dX1_part_35 rfl ?_
  refine gg_bipush (v := 32) hG dX1_part_37 (by decide) ?_
  refine gg_ic_ge (tgt := 167) hG dX1_part_39 (by decide) (fun c1 => ?_) (fun c1 => ?_)
  · replace h := h.1 c1
    refine gg_mk hG [false, false, false, false, false, false, false] rfl ?_
    exact m_X1_part_c167 hG h
  · replace h := h.2 c1
    refine gg_iload_n hG dX1_part_42 rfl rfl ?_
    refine gg_iload hG dX1_part_43 rfl ?_
    refine gg_iushr hG dX1_part_45 ?_
    refine gg_if_eq (tgt := 167) hG dX1_part_46 (by decide) (fun c2 => ?_) (fun c2 => ?_)
    · replace h := h.1 c2
      refine gg_mk hG [false, false, false, false, false, false, false] rfl ?_
      exact m_X1_part_c167 hG h
    · replace h := h.2 c2
      refine gg_iload_n hG dX1_part_49 rfl rfl ?_
      refine gg_iload hG dX1_part_50 rfl ?_
      refine gg_iushr hG dX1_part_52 ?_
      refine gg_iconst (v := 1) hG dX1_part_53 (by decide) ?_
      refine gg_iand hG dX1_part_54 ?_
      refine gg_if_ne (tgt := 61) hG dX1_part_55 (by decide) (fun c3 => ?_) (fun c3 => ?_)
      · replace h := h.1 c3
        refine gg_aload_n hG dX1_part_61 rfl rfl ?_
        refine gg_get (v := .ref 29) hG dX1_part_62 (by decide) rfl fl_RX1_39 rfl ?_
        refine gg_aload_n hG dX1_part_65 rfl rfl ?_
        refine gg_get (v := .ref 16) hG dX1_part_66 (by decide) rfl fl_RX1_9 rfl ?_
        refine gg_iload hG dX1_part_69 rfl ?_
        refine gg_bipush (v := 32) hG dX1_part_71 (by decide) ?_
        refine gg_imul hG dX1_part_73 ?_
        refine gg_iload hG dX1_part_74 rfl ?_
        refine gg_iadd hG dX1_part_76 ?_
        obtain ⟨h4, h⟩ := h
        refine gg_lald (j := ((a4 * 32) + a5).toNatClampNeg) hG dX1_part_77 (by decide) rfl h4 rfl ?_
        refine gg_xv (As := [.long (u.2 16 (((a4 * 32) + a5).toNatClampNeg))]) (st := []) hG dX1_part_78 ml_RX1_102 Y_X7_unpack YV_X7_unpack (by decide) ⟨_, rfl, rfl⟩ (mt_X7_unpack rfl h) rfl (by decide) (Nat.le_of_ble_eq_true rfl) rfl (gg_kv (fun u5 h => ?_))
        refine gg_aload_n hG dX1_part_81 rfl rfl ?_
        refine gg_get (v := .ref 29) hG dX1_part_82 (by decide) rfl fl_RX1_39 rfl ?_
        refine gg_aload_n hG dX1_part_85 rfl rfl ?_
        refine gg_iload_n hG dX1_part_86 rfl rfl ?_
        refine gg_xv (As := [.ref 6, .int a3]) (st := []) hG dX1_part_87 ml_RX1_63 Y_X7_does YV_X7_does (by decide) ⟨_, rfl, rfl⟩ (mt_X7_does rfl h) rfl (by decide) (Nat.le_of_ble_eq_true rfl) rfl (gg_ki (fun v7 u6 h => ?_))
        refine gg_istore (L1 := [some (.ref 15), some (.ref 6), some (.int a2), some (.int a3), some (.int a4), some (.int a5), some (.int v7)]) hG dX1_part_90 (by decide) rfl ?_
        refine gg_aload_n hG dX1_part_92 rfl rfl ?_
        refine gg_get (v := .ref 16) hG dX1_part_93 (by decide) rfl fl_RX1_9 rfl ?_
        refine gg_iload hG dX1_part_96 rfl ?_
        refine gg_iconst (v := 1) hG dX1_part_98 (by decide) ?_
        refine gg_iadd hG dX1_part_99 ?_
        refine gg_bipush (v := 32) hG dX1_part_100 (by decide) ?_
        refine gg_imul hG dX1_part_102 ?_
        refine gg_iload hG dX1_part_103 rfl ?_
        refine gg_iadd hG dX1_part_105 ?_
        refine gg_aload_n hG dX1_part_106 rfl rfl ?_
        refine gg_get (v := .ref 29) hG dX1_part_107 (by decide) rfl fl_RX1_39 rfl ?_
        refine gg_xv (As := []) (st := [.int (((a4 + 1) * 32) + a5), .ref 16]) hG dX1_part_110 ml_RX1_70 Y_X7_pack YV_X7_pack (by decide) ⟨_, rfl, rfl⟩ (mt_X7_pack rfl h) rfl (by decide) (Nat.le_of_ble_eq_true rfl) rfl (gg_kj (fun v9 u8 h => ?_))
        obtain ⟨h10, h⟩ := h
        refine gg_last (j := (((a4 + 1) * 32) + a5).toNatClampNeg) hG dX1_part_113 (by decide) rfl h10 rfl ?_
        refine gg_nu (fun u11 eu11 => ?_)
        replace h := h u11 eu11
        refine gg_iload hG dX1_part_114 rfl ?_
        refine gg_bipush (v := 7) hG dX1_part_116 (by decide) ?_
        refine gg_xsN (As := [.int v7, .int 7]) (st := []) hG dX1_part_118 ml_RX1_98 Y_X10_isBelow YS_X10_isBelow (mt_X10_isBelow h) rfl (by decide) (Nat.le_of_ble_eq_true rfl) rfl (gg_ki (fun v13 u12 h => ?_))
        refine gg_if_eq (tgt := 161) hG dX1_part_121 (by decide) (fun c14 => ?_) (fun c14 => ?_)
        · replace h := h.1 c14
          refine gg_mk hG [true, true, true, true, true, true, false] rfl ?_
          exact m_X1_part_c161 hG h hk35
        · replace h := h.2 c14
          refine gg_aload_n hG dX1_part_124 rfl rfl ?_
          refine gg_get (v := .ref 18) hG dX1_part_125 (by decide) rfl fl_RX1_21 rfl ?_
          refine gg_iload hG dX1_part_128 rfl ?_
          obtain ⟨h15, h⟩ := h
          refine gg_aald (j := a4.toNatClampNeg) (r := (gg_rf 18 a4.toNatClampNeg)) hG dX1_part_130 (by decide) (Or.inr rfl) h15 rfl rfl ?_
          refine gg_iload hG dX1_part_131 rfl ?_
          refine gg_dup2 hG dX1_part_133 rfl rfl ?_
          obtain ⟨h16, h⟩ := h
          refine gg_iald (j := v7.toNatClampNeg) hG dX1_part_134 (gg_kd_lt (gg_rf18 h15) (by decide)) (gg_rf18 h15) h16 rfl ?_
          refine gg_iconst (v := 1) hG dX1_part_135 (by decide) ?_
          refine gg_iload hG dX1_part_136 rfl ?_
          refine gg_ishl hG dX1_part_138 ?_
          refine gg_ior hG dX1_part_139 ?_
          obtain ⟨h17, h⟩ := h
          refine gg_iast (j := v7.toNatClampNeg) hG dX1_part_140 (gg_kd_lt (gg_rf18 h15) (by decide)) (gg_rf18 h15) h17 rfl ?_
          refine gg_nu (fun u18 eu18 => ?_)
          replace h := h u18 eu18
          refine gg_aload_n hG dX1_part_141 rfl rfl ?_
          refine gg_get (v := .ref 22) hG dX1_part_142 (by decide) rfl fl_RX1_24 rfl ?_
          refine gg_iload hG dX1_part_145 rfl ?_
          obtain ⟨h19, h⟩ := h
          refine gg_aald (j := a4.toNatClampNeg) (r := (gg_rf 22 a4.toNatClampNeg)) hG dX1_part_147 (by decide) (Or.inr rfl) h19 rfl rfl ?_
          refine gg_iload hG dX1_part_148 rfl ?_
          refine gg_dup2 hG dX1_part_150 rfl rfl ?_
          obtain ⟨h20, h⟩ := h
          refine gg_iald (j := v7.toNatClampNeg) hG dX1_part_151 (gg_kd_lt (gg_rf22 h19) (by decide)) (gg_rf22 h19) h20 rfl ?_
          refine gg_aload_n hG dX1_part_152 rfl rfl ?_
          refine gg_get (v := .ref 17) hG dX1_part_153 (by decide) rfl fl_RX1_15 rfl ?_
          refine gg_iload hG dX1_part_156 rfl ?_
          obtain ⟨h21, h⟩ := h
          refine gg_iald (j := a5.toNatClampNeg) hG dX1_part_158 (by decide) rfl h21 rfl ?_
          refine gg_iadd hG dX1_part_159 ?_
          obtain ⟨h22, h⟩ := h
          refine gg_iast (j := v7.toNatClampNeg) hG dX1_part_160 (gg_kd_lt (gg_rf22 h19) (by decide)) (gg_rf22 h19) h22 rfl ?_
          refine gg_nu (fun u23 eu23 => ?_)
          replace h := h u23 eu23
          refine gg_mk hG [true, true, true, true, true, true, false] rfl ?_
          exact m_X1_part_c161 hG h hk35
      · replace h := h.2 c3
        refine gg_goto (tgt := 161) hG dX1_part_58 (by decide) ?_
        exact m_X1_part_c161 hG h hk35
def w_X1_part_c35 (a2 : Int32) (a3 : Int32) (a4 : Int32) (a5 : Int32) (u : gg_M)  (Q : gg_M → Prop) : Prop :=
  gg_loop (fun (s : Int32 × gg_M) k35 => b_X1_part_c35 a2 a3 a4 s.1 s.2  k35 Q) (a5, u)
set_option maxRecDepth 10000 in
theorem m_X1_part_c35 {a2 : Int32} {a3 : Int32} {a4 : Int32} {a5 : Int32} {u : gg_M}  {G : gg_T} {Q : gg_M → Prop} (hG : gg_Cl none cX1_part 7 RX1 none 4 (gg_eV Q) G)  (h : w_X1_part_c35 a2 a3 a4 a5 u  Q)   : G 35 [some (.ref 15), some (.ref 6), some (.int a2), some (.int a3), some (.int a4), some (.int a5), none] [] u :=
  gg_loop_use (P := fun s : Int32 × gg_M => G 35 [some (.ref 15), some (.ref 6), some (.int a2), some (.int a3), some (.int a4), some (.int s.1), none] [] s.2) h (fun s rc hb hr => mb_X1_part_c35 hG  hb   hr)
def w_X1_part (a2 : Int32) (a3 : Int32) (a4 : Int32) (u : gg_M)  (Q : gg_M → Prop) : Prop :=
  w_X10_isBelow a4 3 u (fun v25 u24 =>
  (¬ v25 = 0 →
   vp_in a4 3 ∧
   w_J7_fill_53178 (gg_rf 18 a4.toNatClampNeg) 0 u24 (fun u28 =>
   vp_in a4 3 ∧
   w_J7_fill_53178 (gg_rf 22 a4.toNatClampNeg) 0 u28 (fun u30 =>
   w_X1_part_c35 a2 a3 a4 0 u30 Q))) ∧
  (v25 = 0 →
   Q u24))
set_option maxRecDepth 10000 in
theorem m_X1_part {a2 : Int32} {a3 : Int32} {a4 : Int32} {u : gg_M}  {G : gg_T} {Q : gg_M → Prop} (hG : gg_Cl none cX1_part 7 RX1 none 4 (gg_eV Q) G)  (h : w_X1_part a2 a3 a4 u  Q)   : G 0 [some (.ref 15), some (.ref 6), some (.int a2), some (.int a3), some (.int a4), none, none] [] u := by
  unfold w_X1_part at h
  refine gg_iload hG dX1_part_0 rfl ?_
  refine gg_iconst (v := 3) hG dX1_part_2 (by decide) ?_
  refine gg_xsN (As := [.int a4, .int 3]) (st := []) hG dX1_part_3 ml_RX1_98 Y_X10_isBelow YS_X10_isBelow (mt_X10_isBelow h) rfl (by decide) (Nat.le_of_ble_eq_true rfl) rfl (gg_ki (fun v25 u24 h => ?_))
  refine gg_if_ne (tgt := 10) hG dX1_part_6 (by decide) (fun c26 => ?_) (fun c26 => ?_)
  · replace h := h.1 c26
    refine gg_aload_n hG dX1_part_10 rfl rfl ?_
    refine gg_get (v := .ref 18) hG dX1_part_11 (by decide) rfl fl_RX1_21 rfl ?_
    refine gg_iload hG dX1_part_14 rfl ?_
    obtain ⟨h27, h⟩ := h
    refine gg_aald (j := a4.toNatClampNeg) (r := (gg_rf 18 a4.toNatClampNeg)) hG dX1_part_16 (by decide) (Or.inr rfl) h27 rfl rfl ?_
    refine gg_iconst (v := 0) hG dX1_part_17 (by decide) ?_
    refine gg_xs (As := [.ref (gg_rf 18 a4.toNatClampNeg), .int 0]) (st := []) hG dX1_part_18 ml_RX1_84 Y_J7_fill_53178 YS_J7_fill_53178 (mt_J7_fill_53178 (gg_rf18 h27) h) rfl (by decide) (Nat.le_of_ble_eq_true rfl) rfl (gg_kv (fun u28 h => ?_))
    refine gg_aload_n hG dX1_part_21 rfl rfl ?_
    refine gg_get (v := .ref 22) hG dX1_part_22 (by decide) rfl fl_RX1_24 rfl ?_
    refine gg_iload hG dX1_part_25 rfl ?_
    obtain ⟨h29, h⟩ := h
    refine gg_aald (j := a4.toNatClampNeg) (r := (gg_rf 22 a4.toNatClampNeg)) hG dX1_part_27 (by decide) (Or.inr rfl) h29 rfl rfl ?_
    refine gg_iconst (v := 0) hG dX1_part_28 (by decide) ?_
    refine gg_xs (As := [.ref (gg_rf 22 a4.toNatClampNeg), .int 0]) (st := []) hG dX1_part_29 ml_RX1_84 Y_J7_fill_53178 YS_J7_fill_53178 (mt_J7_fill_53178 (gg_rf22 h29) h) rfl (by decide) (Nat.le_of_ble_eq_true rfl) rfl (gg_kv (fun u30 h => ?_))
    refine gg_iconst (v := 0) hG dX1_part_32 (by decide) ?_
    refine gg_istore (L1 := [some (.ref 15), some (.ref 6), some (.int a2), some (.int a3), some (.int a4), some (.int 0), none]) hG dX1_part_33 (by decide) rfl ?_
    exact m_X1_part_c35 hG h
  · replace h := h.2 c26
    exact gg_vret hG dX1_part_9 rfl ⟨rfl, h⟩
theorem mt_X1_part {a2 : Int32} {a3 : Int32} {a4 : Int32}  {u : gg_M} {Q : gg_M → Prop} (h : w_X1_part a2 a3 a4 u Q) : gg_Mt 4 yX1_part cX1_part 7 none [.ref 15, .ref 6, .int a2, .int a3, .int a4] u (gg_eV Q) :=
  gg_intro (own := RX1) (by decide +kernel) rfl rfl (Nat.le_of_ble_eq_true rfl) (fun G hG => m_X1_part hG  h)
