/-! X10_textOf -/
def w_X10_textOf_c15 (r0 : Nat) (u : gg_M)  (Q : Nat → gg_M → Prop) : Prop :=
  Q r0 u
set_option maxRecDepth 10000 in
theorem m_X10_textOf_c15 {r0 : Nat} {u : gg_M}  {G : gg_T} {Q : Nat → gg_M → Prop} (hG : gg_Cl none cX10_textOf 2 RX10 (some (.object "ColdMotor$Text")) 1 (gg_eR Q) G) (kr0 : gg_kd r0 = 8) (h : w_X10_textOf_c15 r0 u  Q)   : G 15 [none, none] [.ref r0] u := by
  unfold w_X10_textOf_c15 at h
  exact gg_aret hG dX10_textOf_15 rfl ⟨_, rfl, h⟩
def w_X10_textOf (a1 : Int32) (u : gg_M)  (Q : Nat → gg_M → Prop) : Prop :=
  (¬ a1 = 0 →
   w_X10_textOf_c15 3 u Q) ∧
  (a1 = 0 →
   w_X10_textOf_c15 2 u Q)
set_option maxRecDepth 10000 in
theorem m_X10_textOf {a1 : Int32} {u : gg_M}  {G : gg_T} {Q : Nat → gg_M → Prop} (hG : gg_Cl none cX10_textOf 2 RX10 (some (.object "ColdMotor$Text")) 1 (gg_eR Q) G)  (h : w_X10_textOf a1 u  Q)   : G 0 [some (.ref 0), some (.int a1)] [] u := by
  unfold w_X10_textOf at h
  refine gg_iload_n hG dX10_textOf_0 rfl rfl ?_
  refine gg_if_ne (tgt := 11) hG dX10_textOf_1 (by decide) (fun c1 => ?_) (fun c1 => ?_)
  · replace h := h.1 c1
    refine gg_aload_n hG dX10_textOf_11 rfl rfl ?_
    refine gg_get (v := .ref 3) hG dX10_textOf_12 (by decide) rfl fl_RX10_18 rfl ?_
    refine gg_mk hG [false, false] rfl ?_
    exact m_X10_textOf_c15 hG rfl h
  · replace h := h.2 c1
    refine gg_aload_n hG dX10_textOf_4 rfl rfl ?_
    refine gg_get (v := .ref 2) hG dX10_textOf_5 (by decide) rfl fl_RX10_14 rfl ?_
    refine gg_goto (tgt := 15) hG dX10_textOf_8 (by decide) ?_
    refine gg_mk hG [false, false] rfl ?_
    exact m_X10_textOf_c15 hG rfl h
theorem mt_X10_textOf {a1 : Int32}  {u : gg_M} {Q : Nat → gg_M → Prop} (h : w_X10_textOf a1 u Q) : gg_Mt 1 yX10_textOf cX10_textOf 2 (some (.object "ColdMotor$Text")) [.ref 0, .int a1] u (gg_eR Q) :=
  gg_intro (own := RX10) (by decide +kernel) rfl rfl (Nat.le_of_ble_eq_true rfl) (fun G hG => m_X10_textOf hG  h)
/-! X10_understand -/
def w_X10_understand_c37  (u : gg_M)  (Q : gg_M → Prop) : Prop :=
  ∀ u1 : gg_M, u1 = gg_wI u 31 1 0 →
  Q u1
set_option maxRecDepth 10000 in
theorem m_X10_understand_c37  {u : gg_M}  {G : gg_T} {Q : gg_M → Prop} (hG : gg_Cl none cX10_understand 2 RX10 none 5 (gg_eV Q) G)  (h : w_X10_understand_c37  u  Q)   : G 37 [some (.ref 0), none] [] u := by
  unfold w_X10_understand_c37 at h
  refine gg_aload_n hG dX10_understand_37 rfl rfl ?_
  refine gg_get (v := .ref 31) hG dX10_understand_38 (by decide) rfl fl_RX10_59 rfl ?_
  refine gg_iconst (v := 0) hG dX10_understand_41 (by decide) ?_
  refine gg_putI hG dX10_understand_42 (by decide) rfl fp_RX10_356 rfl (gg_nb (Or.inl rfl)).1 (gg_nb (Or.inl rfl)).2 ?_
  refine gg_nu (fun u1 eu1 => ?_)
  replace h := h u1 eu1
  exact gg_vret hG dX10_understand_45 rfl ⟨rfl, h⟩
def w_X10_understand (a1 : Int32) (u : gg_M)  (Q : gg_M → Prop) : Prop :=
  (¬ a1 = 0 →
   w_X5_learn 3 u (fun u3 =>
   w_X10_understand_c37 u3 Q)) ∧
  (a1 = 0 →
   w_X4_learn 2 u (fun u4 =>
   ∀ u5 : gg_M, u5 = gg_wI u4 15 8 0 →
   w_X10_understand_c37 u5 Q))
set_option maxRecDepth 10000 in
theorem m_X10_understand {a1 : Int32} {u : gg_M}  {G : gg_T} {Q : gg_M → Prop} (hG : gg_Cl none cX10_understand 2 RX10 none 5 (gg_eV Q) G)  (h : w_X10_understand a1 u  Q)   : G 0 [some (.ref 0), some (.int a1)] [] u := by
  unfold w_X10_understand at h
  refine gg_iload_n hG dX10_understand_0 rfl rfl ?_
  refine gg_if_ne (tgt := 26) hG dX10_understand_1 (by decide) (fun c2 => ?_) (fun c2 => ?_)
  · replace h := h.1 c2
    refine gg_aload_n hG dX10_understand_26 rfl rfl ?_
    refine gg_get (v := .ref 8) hG dX10_understand_27 (by decide) rfl fl_RX10_31 rfl ?_
    refine gg_aload_n hG dX10_understand_30 rfl rfl ?_
    refine gg_get (v := .ref 3) hG dX10_understand_31 (by decide) rfl fl_RX10_18 rfl ?_
    refine gg_xv (As := [.ref 3]) (st := []) hG dX10_understand_34 ml_RX10_355 Y_X5_learn YV_X5_learn (by decide) ⟨_, rfl, rfl⟩ (mt_X5_learn rfl h) rfl (by decide) (Nat.le_of_ble_eq_true rfl) rfl (gg_kv (fun u3 h => ?_))
    refine gg_mk hG [true, false] rfl ?_
    exact m_X10_understand_c37 hG h
  · replace h := h.2 c2
    refine gg_aload_n hG dX10_understand_4 rfl rfl ?_
    refine gg_get (v := .ref 6) hG dX10_understand_5 (by decide) rfl fl_RX10_24 rfl ?_
    refine gg_aload_n hG dX10_understand_8 rfl rfl ?_
    refine gg_get (v := .ref 2) hG dX10_understand_9 (by decide) rfl fl_RX10_14 rfl ?_
    refine gg_xv (As := [.ref 2]) (st := []) hG dX10_understand_12 ml_RX10_351 Y_X4_learn YV_X4_learn (by decide) ⟨_, rfl, rfl⟩ (mt_X4_learn rfl h) rfl (by decide) (Nat.le_of_ble_eq_true rfl) rfl (gg_kv (fun u4 h => ?_))
    refine gg_aload_n hG dX10_understand_15 rfl rfl ?_
    refine gg_get (v := .ref 15) hG dX10_understand_16 (by decide) rfl fl_RX10_52 rfl ?_
    refine gg_iconst (v := 0) hG dX10_understand_19 (by decide) ?_
    refine gg_putI hG dX10_understand_20 (by decide) rfl fp_RX10_114 rfl (gg_nb (Or.inl rfl)).1 (gg_nb (Or.inl rfl)).2 ?_
    refine gg_nu (fun u5 eu5 => ?_)
    replace h := h u5 eu5
    refine gg_goto (tgt := 37) hG dX10_understand_23 (by decide) ?_
    refine gg_mk hG [true, false] rfl ?_
    exact m_X10_understand_c37 hG h
theorem mt_X10_understand {a1 : Int32}  {u : gg_M} {Q : gg_M → Prop} (h : w_X10_understand a1 u Q) : gg_Mt 5 yX10_understand cX10_understand 2 none [.ref 0, .int a1] u (gg_eV Q) :=
  gg_intro (own := RX10) (by decide +kernel) rfl rfl (Nat.le_of_ble_eq_true rfl) (fun G hG => m_X10_understand hG  h)
/-! X10_type -/
def w_X10_type_c18  (u : gg_M)  (Q : Int32 → gg_M → Prop) : Prop :=
  Q (-2) u
set_option maxRecDepth 10000 in
theorem m_X10_type_c18  {u : gg_M}  {G : gg_T} {Q : Int32 → gg_M → Prop} (hG : gg_Cl none cX10_type 3 RX10 (some .int) 6 (gg_eI Q) G)  (h : w_X10_type_c18  u  Q)   : G 18 [none, none, none] [] u := by
  unfold w_X10_type_c18 at h
  refine gg_bipush (v := (-2)) hG dX10_type_18 (by decide) ?_
  exact gg_iret hG dX10_type_20 rfl rfl ⟨_, rfl, h⟩
def w_X10_type (a1 : Int32) (a2 : Int32) (u : gg_M)  (Q : Int32 → gg_M → Prop) : Prop :=
  w_X10_isBelow a1 2 u (fun v2 u1 =>
  (v2 = 0 →
   w_X10_type_c18 u1 Q) ∧
  (¬ v2 = 0 →
   w_X10_isBelow a2 256 u1 (fun v5 u4 =>
   (¬ v5 = 0 →
    w_X10_textOf a1 u4 (fun v8 u7 =>
    gg_kd v8 = 8 ∧
    w_X8_takes v8 a2 u7 (fun v10 u9 =>
    (¬ v10 = 0 →
     w_X10_understand a1 u9 (fun u12 =>
     w_X10_textOf a1 u12 (fun v14 u13 =>
     gg_kd v14 = 8 ∧
     Q (u13.1 v14 1) u13))) ∧
    (v10 = 0 →
     Q (-4) u9)))) ∧
   (v5 = 0 →
    w_X10_type_c18 u4 Q))))
set_option maxRecDepth 10000 in
theorem m_X10_type {a1 : Int32} {a2 : Int32} {u : gg_M}  {G : gg_T} {Q : Int32 → gg_M → Prop} (hG : gg_Cl none cX10_type 3 RX10 (some .int) 6 (gg_eI Q) G)  (h : w_X10_type a1 a2 u  Q)   : G 0 [some (.ref 0), some (.int a1), some (.int a2)] [] u := by
  unfold w_X10_type at h
  refine gg_iload_n hG dX10_type_0 rfl rfl ?_
  refine gg_iconst (v := 2) hG dX10_type_1 (by decide) ?_
  refine gg_xs (As := [.int a1, .int 2]) (st := []) hG dX10_type_2 ml_RX10_84 Y_X10_isBelow YS_X10_isBelow (mt_X10_isBelow h) rfl (by decide) (Nat.le_of_ble_eq_true rfl) rfl (gg_ki (fun v2 u1 h => ?_))
  refine gg_if_eq (tgt := 18) hG dX10_type_5 (by decide) (fun c3 => ?_) (fun c3 => ?_)
  · replace h := h.1 c3
    refine gg_mk hG [false, false, false] rfl ?_
    exact m_X10_type_c18 hG h
  · replace h := h.2 c3
    refine gg_iload_n hG dX10_type_8 rfl rfl ?_
    refine gg_sipush (v := 256) hG dX10_type_9 (by decide) ?_
    refine gg_xs (As := [.int a2, .int 256]) (st := []) hG dX10_type_12 ml_RX10_84 Y_X10_isBelow YS_X10_isBelow (mt_X10_isBelow h) rfl (by decide) (Nat.le_of_ble_eq_true rfl) rfl (gg_ki (fun v5 u4 h => ?_))
    refine gg_if_ne (tgt := 21) hG dX10_type_15 (by decide) (fun c6 => ?_) (fun c6 => ?_)
    · replace h := h.1 c6
      refine gg_aload_n hG dX10_type_21 rfl rfl ?_
      refine gg_iload_n hG dX10_type_22 rfl rfl ?_
      refine gg_xv (As := [.int a1]) (st := []) hG dX10_type_23 ml_RX10_88 Y_X10_textOf YV_X10_textOf (by decide) ⟨_, rfl, rfl⟩ (mt_X10_textOf h) rfl (by decide) (Nat.le_of_ble_eq_true rfl) rfl (gg_kr (fun v8 u7 h => ?_))
      obtain ⟨kv8, h⟩ := h
      refine gg_iload_n hG dX10_type_26 rfl rfl ?_
      refine gg_xv (As := [.int a2]) (st := []) hG dX10_type_27 ml_RX10_92 Y_X8_takes YV_X8_takes (gg_kd_lt kv8 (by decide)) (gg_rcv kv8 rfl) (mt_X8_takes kv8 h) rfl (by decide) (Nat.le_of_ble_eq_true rfl) rfl (gg_ki (fun v10 u9 h => ?_))
      refine gg_if_ne (tgt := 36) hG dX10_type_30 (by decide) (fun c11 => ?_) (fun c11 => ?_)
      · replace h := h.1 c11
        refine gg_aload_n hG dX10_type_36 rfl rfl ?_
        refine gg_iload_n hG dX10_type_37 rfl rfl ?_
        refine gg_xv (As := [.int a1]) (st := []) hG dX10_type_38 ml_RX10_96 Y_X10_understand YV_X10_understand (by decide) ⟨_, rfl, rfl⟩ (mt_X10_understand h) rfl (by decide) (Nat.le_of_ble_eq_true rfl) rfl (gg_kv (fun u12 h => ?_))
        refine gg_aload_n hG dX10_type_41 rfl rfl ?_
        refine gg_iload_n hG dX10_type_42 rfl rfl ?_
        refine gg_xv (As := [.int a1]) (st := []) hG dX10_type_43 ml_RX10_88 Y_X10_textOf YV_X10_textOf (by decide) ⟨_, rfl, rfl⟩ (mt_X10_textOf h) rfl (by decide) (Nat.le_of_ble_eq_true rfl) rfl (gg_kr (fun v14 u13 h => ?_))
        obtain ⟨kv14, h⟩ := h
        refine gg_get (v := .int (u13.1 v14 1)) hG dX10_type_46 (gg_kd_lt kv14 (by decide)) kv14 fl_RX10_99 (gg_fvI kv14 rfl) ?_
        exact gg_iret hG dX10_type_49 rfl rfl ⟨_, rfl, h⟩
      · replace h := h.2 c11
        refine gg_bipush (v := (-4)) hG dX10_type_33 (by decide) ?_
        exact gg_iret hG dX10_type_35 rfl rfl ⟨_, rfl, h⟩
    · replace h := h.2 c6
      refine gg_mk hG [false, false, false] rfl ?_
      exact m_X10_type_c18 hG h
theorem mt_X10_type {a1 : Int32} {a2 : Int32}  {u : gg_M} {Q : Int32 → gg_M → Prop} (h : w_X10_type a1 a2 u Q) : gg_Mt 6 yX10_type cX10_type 3 (some .int) [.ref 0, .int a1, .int a2] u (gg_eI Q) :=
  gg_intro (own := RX10) (by decide +kernel) rfl rfl (Nat.le_of_ble_eq_true rfl) (fun G hG => m_X10_type hG  h)
/-! X10_wipe -/
def w_X10_wipe (a1 : Int32) (u : gg_M)  (Q : Int32 → gg_M → Prop) : Prop :=
  w_X10_isBelow a1 2 u (fun v2 u1 =>
  (¬ v2 = 0 →
   w_X10_textOf a1 u1 (fun v5 u4 =>
   gg_kd v5 = 8 ∧
   ∀ v6 : Int32, v6 = (u4.1 v5 1) →
   w_X10_textOf a1 u4 (fun v8 u7 =>
   gg_kd v8 = 8 ∧
   ∀ u9 : gg_M, u9 = gg_wI u7 v8 1 0 →
   w_X10_understand a1 u9 (fun u10 =>
   Q v6 u10)))) ∧
  (v2 = 0 →
   Q (-2) u1))
set_option maxRecDepth 10000 in
theorem m_X10_wipe {a1 : Int32} {u : gg_M}  {G : gg_T} {Q : Int32 → gg_M → Prop} (hG : gg_Cl none cX10_wipe 3 RX10 (some .int) 6 (gg_eI Q) G)  (h : w_X10_wipe a1 u  Q)   : G 0 [some (.ref 0), some (.int a1), none] [] u := by
  unfold w_X10_wipe at h
  refine gg_iload_n hG dX10_wipe_0 rfl rfl ?_
  refine gg_iconst (v := 2) hG dX10_wipe_1 (by decide) ?_
  refine gg_xs (As := [.int a1, .int 2]) (st := []) hG dX10_wipe_2 ml_RX10_84 Y_X10_isBelow YS_X10_isBelow (mt_X10_isBelow h) rfl (by decide) (Nat.le_of_ble_eq_true rfl) rfl (gg_ki (fun v2 u1 h => ?_))
  refine gg_if_ne (tgt := 11) hG dX10_wipe_5 (by decide) (fun c3 => ?_) (fun c3 => ?_)
  · replace h := h.1 c3
    refine gg_aload_n hG dX10_wipe_11 rfl rfl ?_
    refine gg_iload_n hG dX10_wipe_12 rfl rfl ?_
    refine gg_xv (As := [.int a1]) (st := []) hG dX10_wipe_13 ml_RX10_88 Y_X10_textOf YV_X10_textOf (by decide) ⟨_, rfl, rfl⟩ (mt_X10_textOf h) rfl (by decide) (Nat.le_of_ble_eq_true rfl) rfl (gg_kr (fun v5 u4 h => ?_))
    obtain ⟨kv5, h⟩ := h
    refine gg_get (v := .int (u4.1 v5 1)) hG dX10_wipe_16 (gg_kd_lt kv5 (by decide)) kv5 fl_RX10_99 (gg_fvI kv5 rfl) ?_
    refine gg_ni (fun v6 e6 => ?_)
    replace h := h v6 e6
    refine gg_istore_n (L1 := [some (.ref 0), some (.int a1), some (.int v6)]) hG dX10_wipe_19 rfl (by decide) rfl ?_
    refine gg_aload_n hG dX10_wipe_20 rfl rfl ?_
    refine gg_iload_n hG dX10_wipe_21 rfl rfl ?_
    refine gg_xv (As := [.int a1]) (st := []) hG dX10_wipe_22 ml_RX10_88 Y_X10_textOf YV_X10_textOf (by decide) ⟨_, rfl, rfl⟩ (mt_X10_textOf h) rfl (by decide) (Nat.le_of_ble_eq_true rfl) rfl (gg_kr (fun v8 u7 h => ?_))
    obtain ⟨kv8, h⟩ := h
    refine gg_iconst (v := 0) hG dX10_wipe_25 (by decide) ?_
    refine gg_putI hG dX10_wipe_26 (gg_kd_lt kv8 (by decide)) kv8 fp_RX10_99 rfl rfl rfl ?_
    refine gg_nu (fun u9 eu9 => ?_)
    replace h := h u9 eu9
    refine gg_aload_n hG dX10_wipe_29 rfl rfl ?_
    refine gg_iload_n hG dX10_wipe_30 rfl rfl ?_
    refine gg_xv (As := [.int a1]) (st := []) hG dX10_wipe_31 ml_RX10_96 Y_X10_understand YV_X10_understand (by decide) ⟨_, rfl, rfl⟩ (mt_X10_understand h) rfl (by decide) (Nat.le_of_ble_eq_true rfl) rfl (gg_kv (fun u10 h => ?_))
    refine gg_iload_n hG dX10_wipe_34 rfl rfl ?_
    exact gg_iret hG dX10_wipe_35 rfl rfl ⟨_, rfl, h⟩
  · replace h := h.2 c3
    refine gg_bipush (v := (-2)) hG dX10_wipe_8 (by decide) ?_
    exact gg_iret hG dX10_wipe_10 rfl rfl ⟨_, rfl, h⟩
theorem mt_X10_wipe {a1 : Int32}  {u : gg_M} {Q : Int32 → gg_M → Prop} (h : w_X10_wipe a1 u Q) : gg_Mt 6 yX10_wipe cX10_wipe 3 (some .int) [.ref 0, .int a1] u (gg_eI Q) :=
  gg_intro (own := RX10) (by decide +kernel) rfl rfl (Nat.le_of_ble_eq_true rfl) (fun G hG => m_X10_wipe hG  h)
/-! X10_fault -/
def w_X10_fault_c32 (z0 : Int32) (u : gg_M)  (Q : Int32 → gg_M → Prop) : Prop :=
  Q z0 u
set_option maxRecDepth 10000 in
theorem m_X10_fault_c32 {z0 : Int32} {u : gg_M}  {G : gg_T} {Q : Int32 → gg_M → Prop} (hG : gg_Cl none cX10_fault 2 RX10 (some .int) 2 (gg_eI Q) G)  (h : w_X10_fault_c32 z0 u  Q)   : G 32 [none, none] [.int z0] u := by
  unfold w_X10_fault_c32 at h
  exact gg_iret hG dX10_fault_32 rfl rfl ⟨_, rfl, h⟩
def w_X10_fault (a1 : Int32) (u : gg_M)  (Q : Int32 → gg_M → Prop) : Prop :=
  w_X10_isBelow a1 2 u (fun v2 u1 =>
  (¬ v2 = 0 →
   (¬ a1 = 0 →
    w_X10_fault_c32 (u1.1 8 2) u1 Q) ∧
   (a1 = 0 →
    w_X10_fault_c32 (u1.1 6 1) u1 Q)) ∧
  (v2 = 0 →
   Q (-2) u1))
set_option maxRecDepth 10000 in
theorem m_X10_fault {a1 : Int32} {u : gg_M}  {G : gg_T} {Q : Int32 → gg_M → Prop} (hG : gg_Cl none cX10_fault 2 RX10 (some .int) 2 (gg_eI Q) G)  (h : w_X10_fault a1 u  Q)   : G 0 [some (.ref 0), some (.int a1)] [] u := by
  unfold w_X10_fault at h
  refine gg_iload_n hG dX10_fault_0 rfl rfl ?_
  refine gg_iconst (v := 2) hG dX10_fault_1 (by decide) ?_
  refine gg_xs (As := [.int a1, .int 2]) (st := []) hG dX10_fault_2 ml_RX10_84 Y_X10_isBelow YS_X10_isBelow (mt_X10_isBelow h) rfl (by decide) (Nat.le_of_ble_eq_true rfl) rfl (gg_ki (fun v2 u1 h => ?_))
  refine gg_if_ne (tgt := 11) hG dX10_fault_5 (by decide) (fun c3 => ?_) (fun c3 => ?_)
  · replace h := h.1 c3
    refine gg_iload_n hG dX10_fault_11 rfl rfl ?_
    refine gg_if_ne (tgt := 25) hG dX10_fault_12 (by decide) (fun c4 => ?_) (fun c4 => ?_)
    · replace h := h.1 c4
      refine gg_aload_n hG dX10_fault_25 rfl rfl ?_
      refine gg_get (v := .ref 8) hG dX10_fault_26 (by decide) rfl fl_RX10_31 rfl ?_
      refine gg_get (v := .int (u1.1 8 2)) hG dX10_fault_29 (by decide) rfl fl_RX10_106 rfl ?_
      refine gg_mk hG [false, false] rfl ?_
      exact m_X10_fault_c32 hG h
    · replace h := h.2 c4
      refine gg_aload_n hG dX10_fault_15 rfl rfl ?_
      refine gg_get (v := .ref 6) hG dX10_fault_16 (by decide) rfl fl_RX10_24 rfl ?_
      refine gg_get (v := .int (u1.1 6 1)) hG dX10_fault_19 (by decide) rfl fl_RX10_103 rfl ?_
      refine gg_goto (tgt := 32) hG dX10_fault_22 (by decide) ?_
      refine gg_mk hG [false, false] rfl ?_
      exact m_X10_fault_c32 hG h
  · replace h := h.2 c3
    refine gg_bipush (v := (-2)) hG dX10_fault_8 (by decide) ?_
    exact gg_iret hG dX10_fault_10 rfl rfl ⟨_, rfl, h⟩
theorem mt_X10_fault {a1 : Int32}  {u : gg_M} {Q : Int32 → gg_M → Prop} (h : w_X10_fault a1 u Q) : gg_Mt 2 yX10_fault cX10_fault 2 (some .int) [.ref 0, .int a1] u (gg_eI Q) :=
  gg_intro (own := RX10) (by decide +kernel) rfl rfl (Nat.le_of_ble_eq_true rfl) (fun G hG => m_X10_fault hG  h)
/-! X10_motor -/
def w_X10_motor_c23 (z0 : Int32) (u : gg_M)  (Q : Int32 → gg_M → Prop) : Prop :=
  Q z0 u
set_option maxRecDepth 10000 in
theorem m_X10_motor_c23 {z0 : Int32} {u : gg_M}  {G : gg_T} {Q : Int32 → gg_M → Prop} (hG : gg_Cl none cX10_motor 2 RX10 (some .int) 2 (gg_eI Q) G)  (h : w_X10_motor_c23 z0 u  Q)   : G 23 [none, none] [.int z0] u := by
  unfold w_X10_motor_c23 at h
  exact gg_iret hG dX10_motor_23 rfl rfl ⟨_, rfl, h⟩
def w_X10_motor (a1 : Int32) (u : gg_M)  (Q : Int32 → gg_M → Prop) : Prop :=
  w_X10_isBelow a1 7 u (fun v2 u1 =>
  (v2 = 0 →
   w_X10_motor_c23 (-2) u1 Q) ∧
  (¬ v2 = 0 →
   vp_in a1 7 ∧
   w_X10_motor_c23 (u1.1 7 a1.toNatClampNeg) u1 Q))
set_option maxRecDepth 10000 in
theorem m_X10_motor {a1 : Int32} {u : gg_M}  {G : gg_T} {Q : Int32 → gg_M → Prop} (hG : gg_Cl none cX10_motor 2 RX10 (some .int) 2 (gg_eI Q) G)  (h : w_X10_motor a1 u  Q)   : G 0 [some (.ref 0), some (.int a1)] [] u := by
  unfold w_X10_motor at h
  refine gg_iload_n hG dX10_motor_0 rfl rfl ?_
  refine gg_bipush (v := 7) hG dX10_motor_1 (by decide) ?_
  refine gg_xs (As := [.int a1, .int 7]) (st := []) hG dX10_motor_3 ml_RX10_84 Y_X10_isBelow YS_X10_isBelow (mt_X10_isBelow h) rfl (by decide) (Nat.le_of_ble_eq_true rfl) rfl (gg_ki (fun v2 u1 h => ?_))
  refine gg_if_eq (tgt := 21) hG dX10_motor_6 (by decide) (fun c3 => ?_) (fun c3 => ?_)
  · replace h := h.1 c3
    refine gg_bipush (v := (-2)) hG dX10_motor_21 (by decide) ?_
    refine gg_mk hG [false, false] rfl ?_
    exact m_X10_motor_c23 hG h
  · replace h := h.2 c3
    refine gg_aload_n hG dX10_motor_9 rfl rfl ?_
    refine gg_get (v := .ref 6) hG dX10_motor_10 (by decide) rfl fl_RX10_24 rfl ?_
    refine gg_get (v := .ref 7) hG dX10_motor_13 (by decide) rfl fl_RX10_107 rfl ?_
    refine gg_iload_n hG dX10_motor_16 rfl rfl ?_
    obtain ⟨h4, h⟩ := h
    refine gg_iald (j := a1.toNatClampNeg) hG dX10_motor_17 (by decide) rfl h4 rfl ?_
    refine gg_goto (tgt := 23) hG dX10_motor_18 (by decide) ?_
    refine gg_mk hG [false, false] rfl ?_
    exact m_X10_motor_c23 hG h
theorem mt_X10_motor {a1 : Int32}  {u : gg_M} {Q : Int32 → gg_M → Prop} (h : w_X10_motor a1 u Q) : gg_Mt 2 yX10_motor cX10_motor 2 (some .int) [.ref 0, .int a1] u (gg_eI Q) :=
  gg_intro (own := RX10) (by decide +kernel) rfl rfl (Nat.le_of_ble_eq_true rfl) (fun G hG => m_X10_motor hG  h)
/-! X10_ahead -/
def w_X10_ahead_c17  (u : gg_M)  (Q : Int32 → gg_M → Prop) : Prop :=
  Q (-2) u
set_option maxRecDepth 10000 in
theorem m_X10_ahead_c17  {u : gg_M}  {G : gg_T} {Q : Int32 → gg_M → Prop} (hG : gg_Cl none cX10_ahead 4 RX10 (some .int) 2 (gg_eI Q) G)  (h : w_X10_ahead_c17  u  Q)   : G 17 [none, none, none, none] [] u := by
  unfold w_X10_ahead_c17 at h
  refine gg_bipush (v := (-2)) hG dX10_ahead_17 (by decide) ?_
  exact gg_iret hG dX10_ahead_19 rfl rfl ⟨_, rfl, h⟩
def w_X10_ahead (a1 : Int32) (a2 : Int32) (u : gg_M)  (Q : Int32 → gg_M → Prop) : Prop :=
  w_X10_isBelow a1 5 u (fun v2 u1 =>
  (v2 = 0 →
   w_X10_ahead_c17 u1 Q) ∧
  (¬ v2 = 0 →
   w_X10_isBelow a2 17 u1 (fun v5 u4 =>
   (¬ v5 = 0 →
    vp_in a1 5 ∧
    ∀ v8 : Int32, v8 = (u4.1 11 a1.toNatClampNeg) →
    vp_in a1 5 ∧
    ∀ u10 : gg_M, u10 = gg_wI u4 11 a1.toNatClampNeg a2 →
    ∀ u11 : gg_M, u11 = gg_wI u10 15 8 0 →
    Q v8 u11) ∧
   (v5 = 0 →
    w_X10_ahead_c17 u4 Q))))
set_option maxRecDepth 10000 in
theorem m_X10_ahead {a1 : Int32} {a2 : Int32} {u : gg_M}  {G : gg_T} {Q : Int32 → gg_M → Prop} (hG : gg_Cl none cX10_ahead 4 RX10 (some .int) 2 (gg_eI Q) G)  (h : w_X10_ahead a1 a2 u  Q)   : G 0 [some (.ref 0), some (.int a1), some (.int a2), none] [] u := by
  unfold w_X10_ahead at h
  refine gg_iload_n hG dX10_ahead_0 rfl rfl ?_
  refine gg_iconst (v := 5) hG dX10_ahead_1 (by decide) ?_
  refine gg_xs (As := [.int a1, .int 5]) (st := []) hG dX10_ahead_2 ml_RX10_84 Y_X10_isBelow YS_X10_isBelow (mt_X10_isBelow h) rfl (by decide) (Nat.le_of_ble_eq_true rfl) rfl (gg_ki (fun v2 u1 h => ?_))
  refine gg_if_eq (tgt := 17) hG dX10_ahead_5 (by decide) (fun c3 => ?_) (fun c3 => ?_)
  · replace h := h.1 c3
    refine gg_mk hG [false, false, false, false] rfl ?_
    exact m_X10_ahead_c17 hG h
  · replace h := h.2 c3
    refine gg_iload_n hG dX10_ahead_8 rfl rfl ?_
    refine gg_bipush (v := 17) hG dX10_ahead_9 (by decide) ?_
    refine gg_xs (As := [.int a2, .int 17]) (st := []) hG dX10_ahead_11 ml_RX10_84 Y_X10_isBelow YS_X10_isBelow (mt_X10_isBelow h) rfl (by decide) (Nat.le_of_ble_eq_true rfl) rfl (gg_ki (fun v5 u4 h => ?_))
    refine gg_if_ne (tgt := 20) hG dX10_ahead_14 (by decide) (fun c6 => ?_) (fun c6 => ?_)
    · replace h := h.1 c6
      refine gg_aload_n hG dX10_ahead_20 rfl rfl ?_
      refine gg_get (v := .ref 10) hG dX10_ahead_21 (by decide) rfl fl_RX10_38 rfl ?_
      refine gg_get (v := .ref 11) hG dX10_ahead_24 (by decide) rfl fl_RX10_111 rfl ?_
      refine gg_iload_n hG dX10_ahead_27 rfl rfl ?_
      obtain ⟨h7, h⟩ := h
      refine gg_iald (j := a1.toNatClampNeg) hG dX10_ahead_28 (by decide) rfl h7 rfl ?_
      refine gg_ni (fun v8 e8 => ?_)
      replace h := h v8 e8
      refine gg_istore_n (L1 := [some (.ref 0), some (.int a1), some (.int a2), some (.int v8)]) hG dX10_ahead_29 rfl (by decide) rfl ?_
      refine gg_aload_n hG dX10_ahead_30 rfl rfl ?_
      refine gg_get (v := .ref 10) hG dX10_ahead_31 (by decide) rfl fl_RX10_38 rfl ?_
      refine gg_get (v := .ref 11) hG dX10_ahead_34 (by decide) rfl fl_RX10_111 rfl ?_
      refine gg_iload_n hG dX10_ahead_37 rfl rfl ?_
      refine gg_iload_n hG dX10_ahead_38 rfl rfl ?_
      obtain ⟨h9, h⟩ := h
      refine gg_iast (j := a1.toNatClampNeg) hG dX10_ahead_39 (by decide) rfl h9 rfl ?_
      refine gg_nu (fun u10 eu10 => ?_)
      replace h := h u10 eu10
      refine gg_aload_n hG dX10_ahead_40 rfl rfl ?_
      refine gg_get (v := .ref 15) hG dX10_ahead_41 (by decide) rfl fl_RX10_52 rfl ?_
      refine gg_iconst (v := 0) hG dX10_ahead_44 (by decide) ?_
      refine gg_putI hG dX10_ahead_45 (by decide) rfl fp_RX10_114 rfl (gg_nb (Or.inl rfl)).1 (gg_nb (Or.inl rfl)).2 ?_
      refine gg_nu (fun u11 eu11 => ?_)
      replace h := h u11 eu11
      refine gg_iload_n hG dX10_ahead_48 rfl rfl ?_
      exact gg_iret hG dX10_ahead_49 rfl rfl ⟨_, rfl, h⟩
    · replace h := h.2 c6
      refine gg_mk hG [false, false, false, false] rfl ?_
      exact m_X10_ahead_c17 hG h
theorem mt_X10_ahead {a1 : Int32} {a2 : Int32}  {u : gg_M} {Q : Int32 → gg_M → Prop} (h : w_X10_ahead a1 a2 u Q) : gg_Mt 2 yX10_ahead cX10_ahead 4 (some .int) [.ref 0, .int a1, .int a2] u (gg_eI Q) :=
  gg_intro (own := RX10) (by decide +kernel) rfl rfl (Nat.le_of_ble_eq_true rfl) (fun G hG => m_X10_ahead hG  h)
/-! X10_see -/
def w_X10_see_c18  (u : gg_M)  (Q : Int32 → gg_M → Prop) : Prop :=
  Q (-2) u
set_option maxRecDepth 10000 in
theorem m_X10_see_c18  {u : gg_M}  {G : gg_T} {Q : Int32 → gg_M → Prop} (hG : gg_Cl none cX10_see 3 RX10 (some .int) 2 (gg_eI Q) G)  (h : w_X10_see_c18  u  Q)   : G 18 [none, none, none] [] u := by
  unfold w_X10_see_c18 at h
  refine gg_bipush (v := (-2)) hG dX10_see_18 (by decide) ?_
  exact gg_iret hG dX10_see_20 rfl rfl ⟨_, rfl, h⟩
def w_X10_see (a1 : Int32) (a2 : Int32) (u : gg_M)  (Q : Int32 → gg_M → Prop) : Prop :=
  w_X10_isBelow a1 10 u (fun v2 u1 =>
  (v2 = 0 →
   w_X10_see_c18 u1 Q) ∧
  (¬ v2 = 0 →
   w_X10_isBelow a2 7 u1 (fun v5 u4 =>
   (¬ v5 = 0 →
    w_X2_takes a1 a2 u4 (fun v8 u7 =>
    (¬ v8 = 0 →
     ∀ u10 : gg_M, u10 = gg_wI u7 15 8 0 →
     Q (u10.1 12 2) u10) ∧
    (v8 = 0 →
     Q (-4) u7))) ∧
   (v5 = 0 →
    w_X10_see_c18 u4 Q))))
set_option maxRecDepth 10000 in
theorem m_X10_see {a1 : Int32} {a2 : Int32} {u : gg_M}  {G : gg_T} {Q : Int32 → gg_M → Prop} (hG : gg_Cl none cX10_see 3 RX10 (some .int) 2 (gg_eI Q) G)  (h : w_X10_see a1 a2 u  Q)   : G 0 [some (.ref 0), some (.int a1), some (.int a2)] [] u := by
  unfold w_X10_see at h
  refine gg_iload_n hG dX10_see_0 rfl rfl ?_
  refine gg_bipush (v := 10) hG dX10_see_1 (by decide) ?_
  refine gg_xs (As := [.int a1, .int 10]) (st := []) hG dX10_see_3 ml_RX10_84 Y_X10_isBelow YS_X10_isBelow (mt_X10_isBelow h) rfl (by decide) (Nat.le_of_ble_eq_true rfl) rfl (gg_ki (fun v2 u1 h => ?_))
  refine gg_if_eq (tgt := 18) hG dX10_see_6 (by decide) (fun c3 => ?_) (fun c3 => ?_)
  · replace h := h.1 c3
    refine gg_mk hG [false, false, false] rfl ?_
    exact m_X10_see_c18 hG h
  · replace h := h.2 c3
    refine gg_iload_n hG dX10_see_9 rfl rfl ?_
    refine gg_bipush (v := 7) hG dX10_see_10 (by decide) ?_
    refine gg_xs (As := [.int a2, .int 7]) (st := []) hG dX10_see_12 ml_RX10_84 Y_X10_isBelow YS_X10_isBelow (mt_X10_isBelow h) rfl (by decide) (Nat.le_of_ble_eq_true rfl) rfl (gg_ki (fun v5 u4 h => ?_))
    refine gg_if_ne (tgt := 21) hG dX10_see_15 (by decide) (fun c6 => ?_) (fun c6 => ?_)
    · replace h := h.1 c6
      refine gg_aload_n hG dX10_see_21 rfl rfl ?_
      refine gg_get (v := .ref 12) hG dX10_see_22 (by decide) rfl fl_RX10_45 rfl ?_
      refine gg_iload_n hG dX10_see_25 rfl rfl ?_
      refine gg_iload_n hG dX10_see_26 rfl rfl ?_
      refine gg_xv (As := [.int a1, .int a2]) (st := []) hG dX10_see_27 ml_RX10_118 Y_X2_takes YV_X2_takes (by decide) ⟨_, rfl, rfl⟩ (mt_X2_takes h) rfl (by decide) (Nat.le_of_ble_eq_true rfl) rfl (gg_ki (fun v8 u7 h => ?_))
      refine gg_if_ne (tgt := 36) hG dX10_see_30 (by decide) (fun c9 => ?_) (fun c9 => ?_)
      · replace h := h.1 c9
        refine gg_aload_n hG dX10_see_36 rfl rfl ?_
        refine gg_get (v := .ref 15) hG dX10_see_37 (by decide) rfl fl_RX10_52 rfl ?_
        refine gg_iconst (v := 0) hG dX10_see_40 (by decide) ?_
        refine gg_putI hG dX10_see_41 (by decide) rfl fp_RX10_114 rfl (gg_nb (Or.inl rfl)).1 (gg_nb (Or.inl rfl)).2 ?_
        refine gg_nu (fun u10 eu10 => ?_)
        replace h := h u10 eu10
        refine gg_aload_n hG dX10_see_44 rfl rfl ?_
        refine gg_get (v := .ref 12) hG dX10_see_45 (by decide) rfl fl_RX10_45 rfl ?_
        refine gg_get (v := .int (u10.1 12 2)) hG dX10_see_48 (by decide) rfl fl_RX10_120 rfl ?_
        exact gg_iret hG dX10_see_51 rfl rfl ⟨_, rfl, h⟩
      · replace h := h.2 c9
        refine gg_bipush (v := (-4)) hG dX10_see_33 (by decide) ?_
        exact gg_iret hG dX10_see_35 rfl rfl ⟨_, rfl, h⟩
    · replace h := h.2 c6
      refine gg_mk hG [false, false, false] rfl ?_
      exact m_X10_see_c18 hG h
theorem mt_X10_see {a1 : Int32} {a2 : Int32}  {u : gg_M} {Q : Int32 → gg_M → Prop} (h : w_X10_see a1 a2 u Q) : gg_Mt 2 yX10_see cX10_see 3 (some .int) [.ref 0, .int a1, .int a2] u (gg_eI Q) :=
  gg_intro (own := RX10) (by decide +kernel) rfl rfl (Nat.le_of_ble_eq_true rfl) (fun G hG => m_X10_see hG  h)
/-! X10_found -/
def w_X10_found (a1 : Int32) (u : gg_M)  (Q : Int32 → gg_M → Prop) : Prop :=
  ∀ u1 : gg_M, u1 = gg_wI u 0 11 a1 →
  Q (((-10) : Int32) - a1) u1
set_option maxRecDepth 10000 in
theorem m_X10_found {a1 : Int32} {u : gg_M}  {G : gg_T} {Q : Int32 → gg_M → Prop} (hG : gg_Cl none cX10_found 2 RX10 (some .int) 1 (gg_eI Q) G)  (h : w_X10_found a1 u  Q)   : G 0 [some (.ref 0), some (.int a1)] [] u := by
  unfold w_X10_found at h
  refine gg_aload_n hG dX10_found_0 rfl rfl ?_
  refine gg_iload_n hG dX10_found_1 rfl rfl ?_
  refine gg_putI hG dX10_found_2 (by decide) rfl fp_RX10_266 rfl rfl rfl ?_
  refine gg_nu (fun u1 eu1 => ?_)
  replace h := h u1 eu1
  refine gg_bipush (v := (-10)) hG dX10_found_5 (by decide) ?_
  refine gg_iload_n hG dX10_found_7 rfl rfl ?_
  refine gg_isub hG dX10_found_8 ?_
  exact gg_iret hG dX10_found_9 rfl rfl ⟨_, rfl, h⟩
theorem mt_X10_found {a1 : Int32}  {u : gg_M} {Q : Int32 → gg_M → Prop} (h : w_X10_found a1 u Q) : gg_Mt 1 yX10_found cX10_found 2 (some .int) [.ref 0, .int a1] u (gg_eI Q) :=
  gg_intro (own := RX10) (by decide +kernel) rfl rfl (Nat.le_of_ble_eq_true rfl) (fun G hG => m_X10_found hG  h)
/-! X10_read -/
def w_X10_read_c80 (a3 : Int32) (u : gg_M)  (Q : Int32 → gg_M → Prop) : Prop :=
  Q a3 u
set_option maxRecDepth 10000 in
theorem m_X10_read_c80 {a3 : Int32} {u : gg_M}  {G : gg_T} {Q : Int32 → gg_M → Prop} (hG : gg_Cl none cX10_read 5 RX10 (some .int) 3 (gg_eI Q) G)  (h : w_X10_read_c80 a3 u  Q)   : G 80 [none, none, none, some (.int a3), none] [] u := by
  unfold w_X10_read_c80 at h
  refine gg_iload_n hG dX10_read_80 rfl rfl ?_
  exact gg_iret hG dX10_read_81 rfl rfl ⟨_, rfl, h⟩
def b_X10_read_c36 (t2 : Nat) (a3 : Int32) (a4 : Int32) (u : gg_M)  (k36 : Int32 × Int32 × gg_M → Prop) (Q : Int32 → gg_M → Prop) : Prop :=
  ((u.1 t2 2) ≤ (a4 + 1) →
   w_X10_read_c80 a3 u Q) ∧
  (¬ (u.1 t2 2) ≤ (a4 + 1) →
   w_X6_itemAt t2 a4 u (fun v3 u2 =>
   w_X6_itemAt t2 (a4 + 1) u2 (fun v5 u4 =>
   w_X10_see v3 v5 u4 (fun v7 u6 =>
   (0 ≤ v7 →
    k36 ((a3 + 1), (a4 + 2), u6)) ∧
   (¬ 0 ≤ v7 →
    w_X10_read_c80 a3 u6 Q)))))
set_option maxRecDepth 10000 in
theorem mb_X10_read_c36 {t2 : Nat} {a3 : Int32} {a4 : Int32} {u : gg_M}  {k36 : Int32 × Int32 × gg_M → Prop} {G : gg_T} {Q : Int32 → gg_M → Prop} (hG : gg_Cl none cX10_read 5 RX10 (some .int) 3 (gg_eI Q) G) (kt2 : gg_kd t2 = 6) (h : b_X10_read_c36 t2 a3 a4 u k36 Q)   (hk36 : ∀ s : Int32 × Int32 × gg_M, k36 s → G 36 [some (.ref 0), none, some (.ref t2), some (.int s.1), some (.int s.2.1)] [] s.2.2) : G 36 [some (.ref 0), none, some (.ref t2), some (.int a3), some (.int a4)] [] u := by
  unfold b_X10_read_c36 at h
  refine gg_iload hG dX10_read_36 rfl ?_
  refine gg_iconst (v := 1) hG dX10_read_38 (by decide) ?_
  refine gg_iadd hG dX10_read_39 ?_
  refine gg_aload_n hG dX10_read_40 rfl rfl ?_
  refine gg_get (v := .int (u.1 t2 2)) hG dX10_read_41 (gg_kd_lt kt2 (by decide)) kt2 fl_RX10_129 (gg_fvI kt2 rfl) ?_
  refine gg_ic_ge (tgt := 80) hG dX10_read_44 (by decide) (fun c1 => ?_) (fun c1 => ?_)
  · replace h := h.1 c1
    refine gg_mk hG [false, false, false, true, false] rfl ?_
    exact m_X10_read_c80 hG h
  · replace h := h.2 c1
    refine gg_aload_n hG dX10_read_47 rfl rfl ?_
    refine gg_aload_n hG dX10_read_48 rfl rfl ?_
    refine gg_iload hG dX10_read_49 rfl ?_
    refine gg_xv (As := [.int a4]) (st := [.ref 0]) hG dX10_read_51 ml_RX10_130 Y_X6_itemAt YV_X6_itemAt (gg_kd_lt kt2 (by decide)) (gg_rcv kt2 rfl) (mt_X6_itemAt kt2 h) rfl (by decide) (Nat.le_of_ble_eq_true rfl) rfl (gg_ki (fun v3 u2 h => ?_))
    refine gg_aload_n hG dX10_read_54 rfl rfl ?_
    refine gg_iload hG dX10_read_55 rfl ?_
    refine gg_iconst (v := 1) hG dX10_read_57 (by decide) ?_
    refine gg_iadd hG dX10_read_58 ?_
    refine gg_xv (As := [.int (a4 + 1)]) (st := [.int v3, .ref 0]) hG dX10_read_59 ml_RX10_130 Y_X6_itemAt YV_X6_itemAt (gg_kd_lt kt2 (by decide)) (gg_rcv kt2 rfl) (mt_X6_itemAt kt2 h) rfl (by decide) (Nat.le_of_ble_eq_true rfl) rfl (gg_ki (fun v5 u4 h => ?_))
    refine gg_xv (As := [.int v3, .int v5]) (st := []) hG dX10_read_62 ml_RX10_133 Y_X10_see YV_X10_see (by decide) ⟨_, rfl, rfl⟩ (mt_X10_see h) rfl (by decide) (Nat.le_of_ble_eq_true rfl) rfl (gg_ki (fun v7 u6 h => ?_))
    refine gg_if_ge (tgt := 71) hG dX10_read_65 (by decide) (fun c8 => ?_) (fun c8 => ?_)
    · replace h := h.1 c8
      refine gg_iinc (v := (a3 + 1)) (L1 := [some (.ref 0), none, some (.ref t2), some (.int (a3 + 1)), some (.int a4)]) hG dX10_read_71 rfl rfl (by decide) rfl ?_
      refine gg_iinc (v := (a4 + 2)) (L1 := [some (.ref 0), none, some (.ref t2), some (.int (a3 + 1)), some (.int (a4 + 2))]) hG dX10_read_74 rfl rfl (by decide) rfl ?_
      refine gg_goto (tgt := 36) hG dX10_read_77 (by decide) ?_
      exact hk36 _ h
    · replace h := h.2 c8
      refine gg_goto (tgt := 80) hG dX10_read_68 (by decide) ?_
      refine gg_mk hG [false, false, false, true, false] rfl ?_
      exact m_X10_read_c80 hG h
def w_X10_read_c36 (t2 : Nat) (a3 : Int32) (a4 : Int32) (u : gg_M)  (Q : Int32 → gg_M → Prop) : Prop :=
  gg_loop (fun (s : Int32 × Int32 × gg_M) k36 => b_X10_read_c36 t2 s.1 s.2.1 s.2.2  k36 Q) (a3, a4, u)
set_option maxRecDepth 10000 in
theorem m_X10_read_c36 {t2 : Nat} {a3 : Int32} {a4 : Int32} {u : gg_M}  {G : gg_T} {Q : Int32 → gg_M → Prop} (hG : gg_Cl none cX10_read 5 RX10 (some .int) 3 (gg_eI Q) G) (kt2 : gg_kd t2 = 6) (h : w_X10_read_c36 t2 a3 a4 u  Q)   : G 36 [some (.ref 0), none, some (.ref t2), some (.int a3), some (.int a4)] [] u :=
  gg_loop_use (P := fun s : Int32 × Int32 × gg_M => G 36 [some (.ref 0), none, some (.ref t2), some (.int s.1), some (.int s.2.1)] [] s.2.2) h (fun s rc hb hr => mb_X10_read_c36 hG kt2 hb   hr)
def w_X10_read (a1 : Int32) (u : gg_M)  (Q : Int32 → gg_M → Prop) : Prop :=
  w_X10_isBelow a1 4 u (fun v10 u9 =>
  (¬ v10 = 0 →
   vp_in a1 4 ∧
   w_X6_isLost (gg_rf 38 a1.toNatClampNeg) u9 (fun v14 u13 =>
   (v14 = 0 →
    w_X10_read_c36 (gg_rf 38 a1.toNatClampNeg) 0 0 u13 Q) ∧
   (¬ v14 = 0 →
    w_X10_found 1 u13 (fun v17 u16 =>
    Q v17 u16)))) ∧
  (v10 = 0 →
   Q (-2) u9))
set_option maxRecDepth 10000 in
theorem m_X10_read {a1 : Int32} {u : gg_M}  {G : gg_T} {Q : Int32 → gg_M → Prop} (hG : gg_Cl none cX10_read 5 RX10 (some .int) 3 (gg_eI Q) G)  (h : w_X10_read a1 u  Q)   : G 0 [some (.ref 0), some (.int a1), none, none, none] [] u := by
  unfold w_X10_read at h
  refine gg_iload_n hG dX10_read_0 rfl rfl ?_
  refine gg_iconst (v := 4) hG dX10_read_1 (by decide) ?_
  refine gg_xs (As := [.int a1, .int 4]) (st := []) hG dX10_read_2 ml_RX10_84 Y_X10_isBelow YS_X10_isBelow (mt_X10_isBelow h) rfl (by decide) (Nat.le_of_ble_eq_true rfl) rfl (gg_ki (fun v10 u9 h => ?_))
  refine gg_if_ne (tgt := 11) hG dX10_read_5 (by decide) (fun c11 => ?_) (fun c11 => ?_)
  · replace h := h.1 c11
    refine gg_aload_n hG dX10_read_11 rfl rfl ?_
    refine gg_get (v := .ref 38) hG dX10_read_12 (by decide) rfl fl_RX10_79 rfl ?_
    refine gg_iload_n hG dX10_read_15 rfl rfl ?_
    obtain ⟨h12, h⟩ := h
    refine gg_aald (j := a1.toNatClampNeg) (r := (gg_rf 38 a1.toNatClampNeg)) hG dX10_read_16 (by decide) (Or.inl rfl) h12 rfl rfl ?_
    refine gg_astore_n (L1 := [some (.ref 0), some (.int a1), some (.ref (gg_rf 38 a1.toNatClampNeg)), none, none]) hG dX10_read_17 rfl (by decide) rfl ?_
    refine gg_aload_n hG dX10_read_18 rfl rfl ?_
    refine gg_xv (As := []) (st := []) hG dX10_read_19 ml_RX10_121 Y_X6_isLost YV_X6_isLost (gg_kd_lt (gg_rf38 h12) (by decide)) (gg_rcv (gg_rf38 h12) rfl) (mt_X6_isLost (gg_rf38 h12) h) rfl (by decide) (Nat.le_of_ble_eq_true rfl) rfl (gg_ki (fun v14 u13 h => ?_))
    refine gg_if_eq (tgt := 31) hG dX10_read_22 (by decide) (fun c15 => ?_) (fun c15 => ?_)
    · replace h := h.1 c15
      refine gg_iconst (v := 0) hG dX10_read_31 (by decide) ?_
      refine gg_istore_n (L1 := [some (.ref 0), some (.int a1), some (.ref (gg_rf 38 a1.toNatClampNeg)), some (.int 0), none]) hG dX10_read_32 rfl (by decide) rfl ?_
      refine gg_iconst (v := 0) hG dX10_read_33 (by decide) ?_
      refine gg_istore (L1 := [some (.ref 0), some (.int a1), some (.ref (gg_rf 38 a1.toNatClampNeg)), some (.int 0), some (.int 0)]) hG dX10_read_34 (by decide) rfl ?_
      refine gg_mk hG [true, false, true, true, true] rfl ?_
      exact m_X10_read_c36 hG (gg_rf38 h12) h
    · replace h := h.2 c15
      refine gg_aload_n hG dX10_read_25 rfl rfl ?_
      refine gg_iconst (v := 1) hG dX10_read_26 (by decide) ?_
      refine gg_xv (As := [.int 1]) (st := []) hG dX10_read_27 ml_RX10_125 Y_X10_found YV_X10_found (by decide) ⟨_, rfl, rfl⟩ (mt_X10_found h) rfl (by decide) (Nat.le_of_ble_eq_true rfl) rfl (gg_ki (fun v17 u16 h => ?_))
      exact gg_iret hG dX10_read_30 rfl rfl ⟨_, rfl, h⟩
  · replace h := h.2 c11
    refine gg_bipush (v := (-2)) hG dX10_read_8 (by decide) ?_
    exact gg_iret hG dX10_read_10 rfl rfl ⟨_, rfl, h⟩
theorem mt_X10_read {a1 : Int32}  {u : gg_M} {Q : Int32 → gg_M → Prop} (h : w_X10_read a1 u Q) : gg_Mt 3 yX10_read cX10_read 5 (some .int) [.ref 0, .int a1] u (gg_eI Q) :=
  gg_intro (own := RX10) (by decide +kernel) rfl rfl (Nat.le_of_ble_eq_true rfl) (fun G hG => m_X10_read hG  h)
/-! X10_back -/
def w_X10_back  (u : gg_M)  (Q : Int32 → gg_M → Prop) : Prop :=
  (0 < (u.1 12 2) →
   ∀ u2 : gg_M, u2 = gg_wI u 12 2 ((u.1 12 2) - 1) →
   ∀ u3 : gg_M, u3 = gg_wI u2 15 8 0 →
   Q (u3.1 12 2) u3) ∧
  (¬ 0 < (u.1 12 2) →
   Q (-3) u)
set_option maxRecDepth 10000 in
theorem m_X10_back  {u : gg_M}  {G : gg_T} {Q : Int32 → gg_M → Prop} (hG : gg_Cl none cX10_back 1 RX10 (some .int) 1 (gg_eI Q) G)  (h : w_X10_back  u  Q)   : G 0 [some (.ref 0)] [] u := by
  unfold w_X10_back at h
  refine gg_aload_n hG dX10_back_0 rfl rfl ?_
  refine gg_get (v := .ref 12) hG dX10_back_1 (by decide) rfl fl_RX10_45 rfl ?_
  refine gg_get (v := .int (u.1 12 2)) hG dX10_back_4 (by decide) rfl fl_RX10_120 rfl ?_
  refine gg_if_gt (tgt := 13) hG dX10_back_7 (by decide) (fun c1 => ?_) (fun c1 => ?_)
  · replace h := h.1 c1
    refine gg_aload_n hG dX10_back_13 rfl rfl ?_
    refine gg_get (v := .ref 12) hG dX10_back_14 (by decide) rfl fl_RX10_45 rfl ?_
    refine gg_dup hG dX10_back_17 rfl ?_
    refine gg_get (v := .int (u.1 12 2)) hG dX10_back_18 (by decide) rfl fl_RX10_120 rfl ?_
    refine gg_iconst (v := 1) hG dX10_back_21 (by decide) ?_
    refine gg_isub hG dX10_back_22 ?_
    refine gg_putI hG dX10_back_23 (by decide) rfl fp_RX10_120 rfl rfl rfl ?_
    refine gg_nu (fun u2 eu2 => ?_)
    replace h := h u2 eu2
    refine gg_aload_n hG dX10_back_26 rfl rfl ?_
    refine gg_get (v := .ref 15) hG dX10_back_27 (by decide) rfl fl_RX10_52 rfl ?_
    refine gg_iconst (v := 0) hG dX10_back_30 (by decide) ?_
    refine gg_putI hG dX10_back_31 (by decide) rfl fp_RX10_114 rfl (gg_nb (Or.inl rfl)).1 (gg_nb (Or.inl rfl)).2 ?_
    refine gg_nu (fun u3 eu3 => ?_)
    replace h := h u3 eu3
    refine gg_aload_n hG dX10_back_34 rfl rfl ?_
    refine gg_get (v := .ref 12) hG dX10_back_35 (by decide) rfl fl_RX10_45 rfl ?_
    refine gg_get (v := .int (u3.1 12 2)) hG dX10_back_38 (by decide) rfl fl_RX10_120 rfl ?_
    exact gg_iret hG dX10_back_41 rfl rfl ⟨_, rfl, h⟩
  · replace h := h.2 c1
    refine gg_bipush (v := (-3)) hG dX10_back_10 (by decide) ?_
    exact gg_iret hG dX10_back_12 rfl rfl ⟨_, rfl, h⟩
theorem mt_X10_back   {u : gg_M} {Q : Int32 → gg_M → Prop} (h : w_X10_back  u Q) : gg_Mt 1 yX10_back cX10_back 1 (some .int) [.ref 0] u (gg_eI Q) :=
  gg_intro (own := RX10) (by decide +kernel) rfl rfl (Nat.le_of_ble_eq_true rfl) (fun G hG => m_X10_back hG  h)
/-! J6_bitCount_0f7a4 -/
def w_J6_bitCount_0f7a4 (a0 : Int32) (u : gg_M)  (Q : Int32 → gg_M → Prop) : Prop :=
  ∀ v1 : Int32, v1 = (a0 - ((gu_ushr a0 1) &&& 1431655765)) →
  ∀ v2 : Int32, v2 = ((v1 &&& 858993459) + ((gu_ushr v1 2) &&& 858993459)) →
  ∀ v3 : Int32, v3 = ((v2 + (gu_ushr v2 4)) &&& 252645135) →
  ∀ v4 : Int32, v4 = (v3 + (gu_ushr v3 8)) →
  ∀ v5 : Int32, v5 = (v4 + (gu_ushr v4 16)) →
  Q (v5 &&& 63) u
set_option maxRecDepth 10000 in
theorem m_J6_bitCount_0f7a4 {a0 : Int32} {u : gg_M}  {G : gg_T} {Q : Int32 → gg_M → Prop} (hG : gg_Cl none cJ6_bitCount_0f7a4 1 RJ6 (some .int) 1 (gg_eI Q) G)  (h : w_J6_bitCount_0f7a4 a0 u  Q)   : G 0 [some (.int a0)] [] u := by
  unfold w_J6_bitCount_0f7a4 at h
  refine gg_iload_n hG dJ6_bitCount_0f7a4_0 rfl rfl ?_
  refine gg_iload_n hG dJ6_bitCount_0f7a4_1 rfl rfl ?_
  refine gg_iconst (v := 1) hG dJ6_bitCount_0f7a4_2 (by decide) ?_
  refine gg_iushr hG dJ6_bitCount_0f7a4_3 ?_
  refine gg_ldcw hG dJ6_bitCount_0f7a4_4 fc_RJ6_265 ?_
  refine gg_iand hG dJ6_bitCount_0f7a4_7 ?_
  refine gg_isub hG dJ6_bitCount_0f7a4_8 ?_
  refine gg_ni (fun v1 e1 => ?_)
  replace h := h v1 e1
  refine gg_istore_n (L1 := [some (.int v1)]) hG dJ6_bitCount_0f7a4_9 rfl (by decide) rfl ?_
  refine gg_iload_n hG dJ6_bitCount_0f7a4_10 rfl rfl ?_
  refine gg_ldcw hG dJ6_bitCount_0f7a4_11 fc_RJ6_266 ?_
  refine gg_iand hG dJ6_bitCount_0f7a4_14 ?_
  refine gg_iload_n hG dJ6_bitCount_0f7a4_15 rfl rfl ?_
  refine gg_iconst (v := 2) hG dJ6_bitCount_0f7a4_16 (by decide) ?_
  refine gg_iushr hG dJ6_bitCount_0f7a4_17 ?_
  refine gg_ldcw hG dJ6_bitCount_0f7a4_18 fc_RJ6_266 ?_
  refine gg_iand hG dJ6_bitCount_0f7a4_21 ?_
  refine gg_iadd hG dJ6_bitCount_0f7a4_22 ?_
  refine gg_ni (fun v2 e2 => ?_)
  replace h := h v2 e2
  refine gg_istore_n (L1 := [some (.int v2)]) hG dJ6_bitCount_0f7a4_23 rfl (by decide) rfl ?_
  refine gg_iload_n hG dJ6_bitCount_0f7a4_24 rfl rfl ?_
  refine gg_iload_n hG dJ6_bitCount_0f7a4_25 rfl rfl ?_
  refine gg_iconst (v := 4) hG dJ6_bitCount_0f7a4_26 (by decide) ?_
  refine gg_iushr hG dJ6_bitCount_0f7a4_27 ?_
  refine gg_iadd hG dJ6_bitCount_0f7a4_28 ?_
  refine gg_ldcw hG dJ6_bitCount_0f7a4_29 fc_RJ6_267 ?_
  refine gg_iand hG dJ6_bitCount_0f7a4_32 ?_
  refine gg_ni (fun v3 e3 => ?_)
  replace h := h v3 e3
  refine gg_istore_n (L1 := [some (.int v3)]) hG dJ6_bitCount_0f7a4_33 rfl (by decide) rfl ?_
  refine gg_iload_n hG dJ6_bitCount_0f7a4_34 rfl rfl ?_
  refine gg_iload_n hG dJ6_bitCount_0f7a4_35 rfl rfl ?_
  refine gg_bipush (v := 8) hG dJ6_bitCount_0f7a4_36 (by decide) ?_
  refine gg_iushr hG dJ6_bitCount_0f7a4_38 ?_
  refine gg_iadd hG dJ6_bitCount_0f7a4_39 ?_
  refine gg_ni (fun v4 e4 => ?_)
  replace h := h v4 e4
  refine gg_istore_n (L1 := [some (.int v4)]) hG dJ6_bitCount_0f7a4_40 rfl (by decide) rfl ?_
  refine gg_iload_n hG dJ6_bitCount_0f7a4_41 rfl rfl ?_
  refine gg_iload_n hG dJ6_bitCount_0f7a4_42 rfl rfl ?_
  refine gg_bipush (v := 16) hG dJ6_bitCount_0f7a4_43 (by decide) ?_
  refine gg_iushr hG dJ6_bitCount_0f7a4_45 ?_
  refine gg_iadd hG dJ6_bitCount_0f7a4_46 ?_
  refine gg_ni (fun v5 e5 => ?_)
  replace h := h v5 e5
  refine gg_istore_n (L1 := [some (.int v5)]) hG dJ6_bitCount_0f7a4_47 rfl (by decide) rfl ?_
  refine gg_iload_n hG dJ6_bitCount_0f7a4_48 rfl rfl ?_
  refine gg_bipush (v := 63) hG dJ6_bitCount_0f7a4_49 (by decide) ?_
  refine gg_iand hG dJ6_bitCount_0f7a4_51 ?_
  exact gg_iret hG dJ6_bitCount_0f7a4_52 rfl rfl ⟨_, rfl, h⟩
theorem mt_J6_bitCount_0f7a4 {a0 : Int32}  {u : gg_M} {Q : Int32 → gg_M → Prop} (h : w_J6_bitCount_0f7a4 a0 u Q) : gg_Mt 1 yJ6_bitCount_0f7a4 cJ6_bitCount_0f7a4 1 (some .int) [.int a0] u (gg_eI Q) :=
  gg_intro (own := RJ6) (by decide +kernel) rfl rfl (Nat.le_of_ble_eq_true rfl) (fun G hG => m_J6_bitCount_0f7a4 hG  h)
/-! X10_known -/
def w_X10_known_c29  (u : gg_M)  (Q : Nat → gg_M → Prop) : Prop :=
  Q 15 u
set_option maxRecDepth 10000 in
theorem m_X10_known_c29  {u : gg_M}  {G : gg_T} {Q : Nat → gg_M → Prop} (hG : gg_Cl none cX10_known 1 RX10 (some (.object "ColdMotor$Belief")) 5 (gg_eR Q) G)  (h : w_X10_known_c29  u  Q)   : G 29 [some (.ref 0)] [] u := by
  unfold w_X10_known_c29 at h
  refine gg_aload_n hG dX10_known_29 rfl rfl ?_
  refine gg_get (v := .ref 15) hG dX10_known_30 (by decide) rfl fl_RX10_52 rfl ?_
  exact gg_aret hG dX10_known_33 rfl ⟨_, rfl, h⟩
def w_X10_known  (u : gg_M)  (Q : Nat → gg_M → Prop) : Prop :=
  (¬ (u.1 15 8) = 0 →
   w_X10_known_c29 u Q) ∧
  ((u.1 15 8) = 0 →
   w_X1_learn u (fun u2 =>
   w_X10_known_c29 u2 Q))
set_option maxRecDepth 10000 in
theorem m_X10_known  {u : gg_M}  {G : gg_T} {Q : Nat → gg_M → Prop} (hG : gg_Cl none cX10_known 1 RX10 (some (.object "ColdMotor$Belief")) 5 (gg_eR Q) G)  (h : w_X10_known  u  Q)   : G 0 [some (.ref 0)] [] u := by
  unfold w_X10_known at h
  refine gg_aload_n hG dX10_known_0 rfl rfl ?_
  refine gg_get (v := .ref 15) hG dX10_known_1 (by decide) rfl fl_RX10_52 rfl ?_
  refine gg_get (v := .int (u.1 15 8)) hG dX10_known_4 (by decide) rfl fl_RX10_114 rfl ?_
  refine gg_if_ne (tgt := 29) hG dX10_known_7 (by decide) (fun c1 => ?_) (fun c1 => ?_)
  · replace h := h.1 c1
    exact m_X10_known_c29 hG h
  · replace h := h.2 c1
    refine gg_aload_n hG dX10_known_10 rfl rfl ?_
    refine gg_get (v := .ref 15) hG dX10_known_11 (by decide) rfl fl_RX10_52 rfl ?_
    refine gg_aload_n hG dX10_known_14 rfl rfl ?_
    refine gg_get (v := .ref 6) hG dX10_known_15 (by decide) rfl fl_RX10_24 rfl ?_
    refine gg_aload_n hG dX10_known_18 rfl rfl ?_
    refine gg_get (v := .ref 12) hG dX10_known_19 (by decide) rfl fl_RX10_45 rfl ?_
    refine gg_aload_n hG dX10_known_22 rfl rfl ?_
    refine gg_get (v := .ref 10) hG dX10_known_23 (by decide) rfl fl_RX10_38 rfl ?_
    refine gg_xv (As := [.ref 6, .ref 12, .ref 10]) (st := []) hG dX10_known_26 ml_RX10_357 Y_X1_learn YV_X1_learn (by decide) ⟨_, rfl, rfl⟩ (mt_X1_learn h) rfl (by decide) (Nat.le_of_ble_eq_true rfl) rfl (gg_kv (fun u2 h => ?_))
    exact m_X10_known_c29 hG h
theorem mt_X10_known   {u : gg_M} {Q : Nat → gg_M → Prop} (h : w_X10_known  u Q) : gg_Mt 5 yX10_known cX10_known 1 (some (.object "ColdMotor$Belief")) [.ref 0] u (gg_eR Q) :=
  gg_intro (own := RX10) (by decide +kernel) rfl rfl (Nat.le_of_ble_eq_true rfl) (fun G hG => m_X10_known hG  h)
/-! X10_left -/
def w_X10_left  (u : gg_M)  (Q : Int32 → gg_M → Prop) : Prop :=
  w_X10_known u (fun v2 u1 =>
  v2 = 15 ∧
  w_J6_bitCount_0f7a4 (u1.1 15 9) u1 (fun v4 u3 =>
  Q v4 u3))
set_option maxRecDepth 10000 in
theorem m_X10_left  {u : gg_M}  {G : gg_T} {Q : Int32 → gg_M → Prop} (hG : gg_Cl none cX10_left 1 RX10 (some .int) 6 (gg_eI Q) G)  (h : w_X10_left  u  Q)   : G 0 [some (.ref 0)] [] u := by
  unfold w_X10_left at h
  refine gg_aload_n hG dX10_left_0 rfl rfl ?_
  refine gg_xv (As := []) (st := []) hG dX10_left_1 ml_RX10_137 Y_X10_known YV_X10_known (by decide) ⟨_, rfl, rfl⟩ (mt_X10_known h) rfl (by decide) (Nat.le_of_ble_eq_true rfl) rfl (gg_kr (fun v2 u1 h => ?_))
  obtain ⟨rfl, h⟩ := h
  refine gg_get (v := .int (u1.1 15 9)) hG dX10_left_4 (by decide) rfl fl_RX10_140 rfl ?_
  refine gg_xs (As := [.int (u1.1 15 9)]) (st := []) hG dX10_left_7 ml_RX10_143 Y_J6_bitCount_0f7a4 YS_J6_bitCount_0f7a4 (mt_J6_bitCount_0f7a4 h) rfl (by decide) (Nat.le_of_ble_eq_true rfl) rfl (gg_ki (fun v4 u3 h => ?_))
  exact gg_iret hG dX10_left_10 rfl rfl ⟨_, rfl, h⟩
theorem mt_X10_left   {u : gg_M} {Q : Int32 → gg_M → Prop} (h : w_X10_left  u Q) : gg_Mt 6 yX10_left cX10_left 1 (some .int) [.ref 0] u (gg_eI Q) :=
  gg_intro (own := RX10) (by decide +kernel) rfl rfl (Nat.le_of_ble_eq_true rfl) (fun G hG => m_X10_left hG  h)
/-! X10_refusal -/
def w_X10_refusal (a0 : Int32) (u : gg_M)  (Q : Int64 → gg_M → Prop) : Prop :=
  Q (((-9223372036854775808) : Int64) - a0.toInt64) u
set_option maxRecDepth 10000 in
theorem m_X10_refusal {a0 : Int32} {u : gg_M}  {G : gg_T} {Q : Int64 → gg_M → Prop} (hG : gg_Cl none cX10_refusal 1 RX10 (some .long) 1 (gg_eJ Q) G)  (h : w_X10_refusal a0 u  Q)   : G 0 [some (.int a0)] [] u := by
  unfold w_X10_refusal at h
  refine gg_ldc2 hG dX10_refusal_0 fc_RX10_363 ?_
  refine gg_iload_n hG dX10_refusal_3 rfl rfl ?_
  refine gg_i2l hG dX10_refusal_4 ?_
  refine gg_lsub hG dX10_refusal_5 ?_
  exact gg_lret hG dX10_refusal_6 rfl ⟨_, rfl, h⟩
theorem mt_X10_refusal {a0 : Int32}  {u : gg_M} {Q : Int64 → gg_M → Prop} (h : w_X10_refusal a0 u Q) : gg_Mt 1 yX10_refusal cX10_refusal 1 (some .long) [.int a0] u (gg_eJ Q) :=
  gg_intro (own := RX10) (by decide +kernel) rfl rfl (Nat.le_of_ble_eq_true rfl) (fun G hG => m_X10_refusal hG  h)
/-! X10_commonDivisor -/
def w_X10_commonDivisor_c44 (a4 : Int64) (u : gg_M)  (Q : Int64 → gg_M → Prop) : Prop :=
  Q a4 u
set_option maxRecDepth 10000 in
theorem m_X10_commonDivisor_c44 {a4 : Int64} {u : gg_M}  {G : gg_T} {Q : Int64 → gg_M → Prop} (hG : gg_Cl none cX10_commonDivisor 11 RX10 (some .long) 1 (gg_eJ Q) G)  (h : w_X10_commonDivisor_c44 a4 u  Q)   : G 44 [none, none, none, none, some (.long a4), none, none, none, none, none, none] [] u := by
  unfold w_X10_commonDivisor_c44 at h
  refine gg_lload hG dX10_commonDivisor_44 rfl ?_
  exact gg_lret hG dX10_commonDivisor_46 rfl ⟨_, rfl, h⟩
def b_X10_commonDivisor_c9  (a4 : Int64) (a6 : Int64) (a8 : Int32) (u : gg_M)  (k9 : Int64 × Int64 × Int32 × gg_M → Prop) (Q : Int64 → gg_M → Prop) : Prop :=
  (100 ≤ a8 →
   w_X10_commonDivisor_c44 a4 u Q) ∧
  (¬ 100 ≤ a8 →
   ((lg_cmp a6 0) = 0 →
    w_X10_commonDivisor_c44 a4 u Q) ∧
   (¬ (lg_cmp a6 0) = 0 →
    ¬ a6 = 0 ∧
    ∀ v4 : Int64, v4 = (a4 - a4 / a6 * a6) →
    k9 (a6, v4, (a8 + 1), u)))
set_option maxRecDepth 10000 in
theorem mb_X10_commonDivisor_c9  {a4 : Int64} {a6 : Int64} {a8 : Int32} {u : gg_M}  {k9 : Int64 × Int64 × Int32 × gg_M → Prop} {G : gg_T} {Q : Int64 → gg_M → Prop} (hG : gg_Cl none cX10_commonDivisor 11 RX10 (some .long) 1 (gg_eJ Q) G)  (h : b_X10_commonDivisor_c9 a4 a6 a8 u k9 Q)   (hk9 : ∀ s : Int64 × Int64 × Int32 × gg_M, k9 s → G 9 [none, none, none, none, some (.long s.1), none, some (.long s.2.1), none, some (.int s.2.2.1), none, none] [] s.2.2.2) : G 9 [none, none, none, none, some (.long a4), none, some (.long a6), none, some (.int a8), none, none] [] u := by
  unfold b_X10_commonDivisor_c9 at h
  refine gg_iload hG dX10_commonDivisor_9 rfl ?_
  refine gg_bipush (v := 100) hG dX10_commonDivisor_11 (by decide) ?_
  refine gg_ic_ge (tgt := 44) hG dX10_commonDivisor_13 (by decide) (fun c1 => ?_) (fun c1 => ?_)
  · replace h := h.1 c1
    refine gg_mk hG [false, false, false, false, true, false, false, false, false, false, false] rfl ?_
    exact m_X10_commonDivisor_c44 hG h
  · replace h := h.2 c1
    refine gg_lload hG dX10_commonDivisor_16 rfl ?_
    refine gg_lconst (v := 0) hG dX10_commonDivisor_18 (by decide) ?_
    refine gg_lcmp hG dX10_commonDivisor_19 ?_
    refine gg_if_eq (tgt := 44) hG dX10_commonDivisor_20 (by decide) (fun c2 => ?_) (fun c2 => ?_)
    · replace h := h.1 c2
      refine gg_mk hG [false, false, false, false, true, false, false, false, false, false, false] rfl ?_
      exact m_X10_commonDivisor_c44 hG h
    · replace h := h.2 c2
      refine gg_lload hG dX10_commonDivisor_23 rfl ?_
      refine gg_lload hG dX10_commonDivisor_25 rfl ?_
      obtain ⟨h3, h⟩ := h
      refine gg_lrem hG dX10_commonDivisor_27 h3 ?_
      refine gg_nl (fun v4 e4 => ?_)
      replace h := h v4 e4
      refine gg_lstore (L1 := [none, none, none, none, some (.long a4), none, some (.long a6), none, some (.int a8), some (.long v4), none]) hG dX10_commonDivisor_28 (by decide) rfl ?_
      refine gg_lload hG dX10_commonDivisor_30 rfl ?_
      refine gg_lstore (L1 := [none, none, none, none, some (.long a6), none, some (.long a6), none, some (.int a8), some (.long v4), none]) hG dX10_commonDivisor_32 (by decide) rfl ?_
      refine gg_lload hG dX10_commonDivisor_34 rfl ?_
      refine gg_lstore (L1 := [none, none, none, none, some (.long a6), none, some (.long v4), none, some (.int a8), some (.long v4), none]) hG dX10_commonDivisor_36 (by decide) rfl ?_
      refine gg_iinc (v := (a8 + 1)) (L1 := [none, none, none, none, some (.long a6), none, some (.long v4), none, some (.int (a8 + 1)), some (.long v4), none]) hG dX10_commonDivisor_38 rfl rfl (by decide) rfl ?_
      refine gg_goto (tgt := 9) hG dX10_commonDivisor_41 (by decide) ?_
      refine gg_mk hG [false, false, false, false, true, false, true, false, true, false, false] rfl ?_
      exact hk9 _ h
def w_X10_commonDivisor_c9 (a4 : Int64) (a6 : Int64) (a8 : Int32) (u : gg_M)  (Q : Int64 → gg_M → Prop) : Prop :=
  gg_loop (fun (s : Int64 × Int64 × Int32 × gg_M) k9 => b_X10_commonDivisor_c9  s.1 s.2.1 s.2.2.1 s.2.2.2  k9 Q) (a4, a6, a8, u)
set_option maxRecDepth 10000 in
theorem m_X10_commonDivisor_c9 {a4 : Int64} {a6 : Int64} {a8 : Int32} {u : gg_M}  {G : gg_T} {Q : Int64 → gg_M → Prop} (hG : gg_Cl none cX10_commonDivisor 11 RX10 (some .long) 1 (gg_eJ Q) G)  (h : w_X10_commonDivisor_c9 a4 a6 a8 u  Q)   : G 9 [none, none, none, none, some (.long a4), none, some (.long a6), none, some (.int a8), none, none] [] u :=
  gg_loop_use (P := fun s : Int64 × Int64 × Int32 × gg_M => G 9 [none, none, none, none, some (.long s.1), none, some (.long s.2.1), none, some (.int s.2.2.1), none, none] [] s.2.2.2) h (fun s rc hb hr => mb_X10_commonDivisor_c9 hG  hb   hr)
def w_X10_commonDivisor (a0 : Int64) (a2 : Int64) (u : gg_M)  (Q : Int64 → gg_M → Prop) : Prop :=
  w_X10_commonDivisor_c9 a0 a2 0 u Q
set_option maxRecDepth 10000 in
theorem m_X10_commonDivisor {a0 : Int64} {a2 : Int64} {u : gg_M}  {G : gg_T} {Q : Int64 → gg_M → Prop} (hG : gg_Cl none cX10_commonDivisor 11 RX10 (some .long) 1 (gg_eJ Q) G)  (h : w_X10_commonDivisor a0 a2 u  Q)   : G 0 [some (.long a0), none, some (.long a2), none, none, none, none, none, none, none, none] [] u := by
  unfold w_X10_commonDivisor at h
  refine gg_lload_n hG dX10_commonDivisor_0 rfl rfl ?_
  refine gg_lstore (L1 := [some (.long a0), none, some (.long a2), none, some (.long a0), none, none, none, none, none, none]) hG dX10_commonDivisor_1 (by decide) rfl ?_
  refine gg_lload_n hG dX10_commonDivisor_3 rfl rfl ?_
  refine gg_lstore (L1 := [some (.long a0), none, some (.long a2), none, some (.long a0), none, some (.long a2), none, none, none, none]) hG dX10_commonDivisor_4 (by decide) rfl ?_
  refine gg_iconst (v := 0) hG dX10_commonDivisor_6 (by decide) ?_
  refine gg_istore (L1 := [some (.long a0), none, some (.long a2), none, some (.long a0), none, some (.long a2), none, some (.int 0), none, none]) hG dX10_commonDivisor_7 (by decide) rfl ?_
  refine gg_mk hG [false, false, false, false, true, false, true, false, true, false, false] rfl ?_
  exact m_X10_commonDivisor_c9 hG h
theorem mt_X10_commonDivisor {a0 : Int64} {a2 : Int64}  {u : gg_M} {Q : Int64 → gg_M → Prop} (h : w_X10_commonDivisor a0 a2 u Q) : gg_Mt 1 yX10_commonDivisor cX10_commonDivisor 11 (some .long) [.long a0, .long a2] u (gg_eJ Q) :=
  gg_intro (own := RX10) (by decide +kernel) rfl rfl (Nat.le_of_ble_eq_true rfl) (fun G hG => m_X10_commonDivisor hG  h)
/-! X10_told -/
def w_X10_told_c28 (a5 : Int64) (z0 : Int64) (u : gg_M)  (Q : Int64 → gg_M → Prop) : Prop :=
  ¬ a5 = 0 ∧
  Q (z0 / a5) u
set_option maxRecDepth 10000 in
theorem m_X10_told_c28 {a5 : Int64} {z0 : Int64} {u : gg_M}  {G : gg_T} {Q : Int64 → gg_M → Prop} (hG : gg_Cl none cX10_told 7 RX10 (some .long) 2 (gg_eJ Q) G)  (h : w_X10_told_c28 a5 z0 u  Q)   : G 28 [none, none, none, none, none, some (.long a5), none] [.long z0] u := by
  unfold w_X10_told_c28 at h
  refine gg_lload hG dX10_told_28 rfl ?_
  obtain ⟨h1, h⟩ := h
  refine gg_ldiv hG dX10_told_30 h1 ?_
  exact gg_lret hG dX10_told_31 rfl ⟨_, rfl, h⟩
def w_X10_told (a0 : Int64) (a2 : Int64) (a4 : Int32) (u : gg_M)  (Q : Int64 → gg_M → Prop) : Prop :=
  w_X10_commonDivisor a0 a2 u (fun v3 u2 =>
  (¬ (lg_cmp v3 0) = 0 →
   (¬ a4 = 0 →
    w_X10_told_c28 v3 a2 u2 Q) ∧
   (a4 = 0 →
    w_X10_told_c28 v3 a0 u2 Q)) ∧
  ((lg_cmp v3 0) = 0 →
   Q a4.toInt64 u2))
set_option maxRecDepth 10000 in
theorem m_X10_told {a0 : Int64} {a2 : Int64} {a4 : Int32} {u : gg_M}  {G : gg_T} {Q : Int64 → gg_M → Prop} (hG : gg_Cl none cX10_told 7 RX10 (some .long) 2 (gg_eJ Q) G)  (h : w_X10_told a0 a2 a4 u  Q)   : G 0 [some (.long a0), none, some (.long a2), none, some (.int a4), none, none] [] u := by
  unfold w_X10_told at h
  refine gg_lload_n hG dX10_told_0 rfl rfl ?_
  refine gg_lload_n hG dX10_told_1 rfl rfl ?_
  refine gg_xs (As := [.long a0, .long a2]) (st := []) hG dX10_told_2 ml_RX10_365 Y_X10_commonDivisor YS_X10_commonDivisor (mt_X10_commonDivisor h) rfl (by decide) (Nat.le_of_ble_eq_true rfl) rfl (gg_kj (fun v3 u2 h => ?_))
  refine gg_lstore (L1 := [some (.long a0), none, some (.long a2), none, some (.int a4), some (.long v3), none]) hG dX10_told_5 (by decide) rfl ?_
  refine gg_lload hG dX10_told_7 rfl ?_
  refine gg_lconst (v := 0) hG dX10_told_9 (by decide) ?_
  refine gg_lcmp hG dX10_told_10 ?_
  refine gg_if_ne (tgt := 18) hG dX10_told_11 (by decide) (fun c4 => ?_) (fun c4 => ?_)
  · replace h := h.1 c4
    refine gg_iload hG dX10_told_18 rfl ?_
    refine gg_if_ne (tgt := 27) hG dX10_told_20 (by decide) (fun c5 => ?_) (fun c5 => ?_)
    · replace h := h.1 c5
      refine gg_lload_n hG dX10_told_27 rfl rfl ?_
      refine gg_mk hG [false, false, false, false, false, true, false] rfl ?_
      exact m_X10_told_c28 hG h
    · replace h := h.2 c5
      refine gg_lload_n hG dX10_told_23 rfl rfl ?_
      refine gg_goto (tgt := 28) hG dX10_told_24 (by decide) ?_
      refine gg_mk hG [false, false, false, false, false, true, false] rfl ?_
      exact m_X10_told_c28 hG h
  · replace h := h.2 c4
    refine gg_iload hG dX10_told_14 rfl ?_
    refine gg_i2l hG dX10_told_16 ?_
    exact gg_lret hG dX10_told_17 rfl ⟨_, rfl, h⟩
theorem mt_X10_told {a0 : Int64} {a2 : Int64} {a4 : Int32}  {u : gg_M} {Q : Int64 → gg_M → Prop} (h : w_X10_told a0 a2 a4 u Q) : gg_Mt 2 yX10_told cX10_told 7 (some .long) [.long a0, .long a2, .int a4] u (gg_eJ Q) :=
  gg_intro (own := RX10) (by decide +kernel) rfl rfl (Nat.le_of_ble_eq_true rfl) (fun G hG => m_X10_told hG  h)
/-! X10_odds -/
def w_X10_odds_c59 (z0 : Int64) (u : gg_M)  (Q : Int64 → gg_M → Prop) : Prop :=
  Q z0 u
set_option maxRecDepth 10000 in
theorem m_X10_odds_c59 {z0 : Int64} {u : gg_M}  {G : gg_T} {Q : Int64 → gg_M → Prop} (hG : gg_Cl none cX10_odds 4 RX10 (some .long) 6 (gg_eJ Q) G)  (h : w_X10_odds_c59 z0 u  Q)   : G 59 [none, none, none, none] [.long z0] u := by
  unfold w_X10_odds_c59 at h
  exact gg_lret hG dX10_odds_59 rfl ⟨_, rfl, h⟩
def w_X10_odds_c17  (u : gg_M)  (Q : Int64 → gg_M → Prop) : Prop :=
  w_X10_refusal (-2) u (fun v2 u1 =>
  Q v2 u1)
set_option maxRecDepth 10000 in
theorem m_X10_odds_c17  {u : gg_M}  {G : gg_T} {Q : Int64 → gg_M → Prop} (hG : gg_Cl none cX10_odds 4 RX10 (some .long) 6 (gg_eJ Q) G)  (h : w_X10_odds_c17  u  Q)   : G 17 [none, none, none, none] [] u := by
  unfold w_X10_odds_c17 at h
  refine gg_bipush (v := (-2)) hG dX10_odds_17 (by decide) ?_
  refine gg_xs (As := [.int (-2)]) (st := []) hG dX10_odds_19 ml_RX10_148 Y_X10_refusal YS_X10_refusal (mt_X10_refusal h) rfl (by decide) (Nat.le_of_ble_eq_true rfl) rfl (gg_kj (fun v2 u1 h => ?_))
  exact gg_lret hG dX10_odds_22 rfl ⟨_, rfl, h⟩
def w_X10_odds (a1 : Int32) (a2 : Int32) (u : gg_M)  (Q : Int64 → gg_M → Prop) : Prop :=
  w_X10_isBelow a1 32 u (fun v4 u3 =>
  (v4 = 0 →
   w_X10_odds_c17 u3 Q) ∧
  (¬ v4 = 0 →
   w_X10_isBelow a2 2 u3 (fun v7 u6 =>
   (¬ v7 = 0 →
    w_X10_known u6 (fun v10 u9 =>
    v10 = 15 ∧
    (¬ (u9.1 15 10) = 0 →
     vp_in a1 32 ∧
     w_X10_told ((u9.1 17 a1.toNatClampNeg).toInt64) ((u9.1 15 10).toInt64) a2 u9 (fun v14 u13 =>
     w_X10_odds_c59 v14 u13 Q)) ∧
    ((u9.1 15 10) = 0 →
     w_X10_refusal (-3) u9 (fun v16 u15 =>
     w_X10_odds_c59 v16 u15 Q)))) ∧
   (v7 = 0 →
    w_X10_odds_c17 u6 Q))))
set_option maxRecDepth 10000 in
theorem m_X10_odds {a1 : Int32} {a2 : Int32} {u : gg_M}  {G : gg_T} {Q : Int64 → gg_M → Prop} (hG : gg_Cl none cX10_odds 4 RX10 (some .long) 6 (gg_eJ Q) G)  (h : w_X10_odds a1 a2 u  Q)   : G 0 [some (.ref 0), some (.int a1), some (.int a2), none] [] u := by
  unfold w_X10_odds at h
  refine gg_iload_n hG dX10_odds_0 rfl rfl ?_
  refine gg_bipush (v := 32) hG dX10_odds_1 (by decide) ?_
  refine gg_xs (As := [.int a1, .int 32]) (st := []) hG dX10_odds_3 ml_RX10_84 Y_X10_isBelow YS_X10_isBelow (mt_X10_isBelow h) rfl (by decide) (Nat.le_of_ble_eq_true rfl) rfl (gg_ki (fun v4 u3 h => ?_))
  refine gg_if_eq (tgt := 17) hG dX10_odds_6 (by decide) (fun c5 => ?_) (fun c5 => ?_)
  · replace h := h.1 c5
    refine gg_mk hG [false, false, false, false] rfl ?_
    exact m_X10_odds_c17 hG h
  · replace h := h.2 c5
    refine gg_iload_n hG dX10_odds_9 rfl rfl ?_
    refine gg_iconst (v := 2) hG dX10_odds_10 (by decide) ?_
    refine gg_xs (As := [.int a2, .int 2]) (st := []) hG dX10_odds_11 ml_RX10_84 Y_X10_isBelow YS_X10_isBelow (mt_X10_isBelow h) rfl (by decide) (Nat.le_of_ble_eq_true rfl) rfl (gg_ki (fun v7 u6 h => ?_))
    refine gg_if_ne (tgt := 23) hG dX10_odds_14 (by decide) (fun c8 => ?_) (fun c8 => ?_)
    · replace h := h.1 c8
      refine gg_aload_n hG dX10_odds_23 rfl rfl ?_
      refine gg_xv (As := []) (st := []) hG dX10_odds_24 ml_RX10_137 Y_X10_known YV_X10_known (by decide) ⟨_, rfl, rfl⟩ (mt_X10_known h) rfl (by decide) (Nat.le_of_ble_eq_true rfl) rfl (gg_kr (fun v10 u9 h => ?_))
      obtain ⟨rfl, h⟩ := h
      refine gg_astore_n (L1 := [some (.ref 0), some (.int a1), some (.int a2), some (.ref 15)]) hG dX10_odds_27 rfl (by decide) rfl ?_
      refine gg_aload_n hG dX10_odds_28 rfl rfl ?_
      refine gg_get (v := .int (u9.1 15 10)) hG dX10_odds_29 (by decide) rfl fl_RX10_152 rfl ?_
      refine gg_if_ne (tgt := 43) hG dX10_odds_32 (by decide) (fun c11 => ?_) (fun c11 => ?_)
      · replace h := h.1 c11
        refine gg_aload_n hG dX10_odds_43 rfl rfl ?_
        refine gg_get (v := .ref 17) hG dX10_odds_44 (by decide) rfl fl_RX10_155 rfl ?_
        refine gg_iload_n hG dX10_odds_47 rfl rfl ?_
        obtain ⟨h12, h⟩ := h
        refine gg_iald (j := a1.toNatClampNeg) hG dX10_odds_48 (by decide) rfl h12 rfl ?_
        refine gg_i2l hG dX10_odds_49 ?_
        refine gg_aload_n hG dX10_odds_50 rfl rfl ?_
        refine gg_get (v := .int (u9.1 15 10)) hG dX10_odds_51 (by decide) rfl fl_RX10_152 rfl ?_
        refine gg_i2l hG dX10_odds_54 ?_
        refine gg_iload_n hG dX10_odds_55 rfl rfl ?_
        refine gg_xs (As := [.long (u9.1 17 a1.toNatClampNeg).toInt64, .long (u9.1 15 10).toInt64, .int a2]) (st := []) hG dX10_odds_56 ml_RX10_158 Y_X10_told YS_X10_told (mt_X10_told h) rfl (by decide) (Nat.le_of_ble_eq_true rfl) rfl (gg_kj (fun v14 u13 h => ?_))
        refine gg_mk hG [false, false, false, false] rfl ?_
        exact m_X10_odds_c59 hG h
      · replace h := h.2 c11
        refine gg_bipush (v := (-3)) hG dX10_odds_35 (by decide) ?_
        refine gg_xs (As := [.int (-3)]) (st := []) hG dX10_odds_37 ml_RX10_148 Y_X10_refusal YS_X10_refusal (mt_X10_refusal h) rfl (by decide) (Nat.le_of_ble_eq_true rfl) rfl (gg_kj (fun v16 u15 h => ?_))
        refine gg_goto (tgt := 59) hG dX10_odds_40 (by decide) ?_
        refine gg_mk hG [false, false, false, false] rfl ?_
        exact m_X10_odds_c59 hG h
    · replace h := h.2 c8
      refine gg_mk hG [false, false, false, false] rfl ?_
      exact m_X10_odds_c17 hG h
theorem mt_X10_odds {a1 : Int32} {a2 : Int32}  {u : gg_M} {Q : Int64 → gg_M → Prop} (h : w_X10_odds a1 a2 u Q) : gg_Mt 6 yX10_odds cX10_odds 4 (some .long) [.ref 0, .int a1, .int a2] u (gg_eJ Q) :=
  gg_intro (own := RX10) (by decide +kernel) rfl rfl (Nat.le_of_ble_eq_true rfl) (fun G hG => m_X10_odds hG  h)
/-! X10_trouble -/
def w_X10_trouble_c57 (z0 : Int64) (u : gg_M)  (Q : Int64 → gg_M → Prop) : Prop :=
  Q z0 u
set_option maxRecDepth 10000 in
theorem m_X10_trouble_c57 {z0 : Int64} {u : gg_M}  {G : gg_T} {Q : Int64 → gg_M → Prop} (hG : gg_Cl none cX10_trouble 4 RX10 (some .long) 6 (gg_eJ Q) G)  (h : w_X10_trouble_c57 z0 u  Q)   : G 57 [none, none, none, none] [.long z0] u := by
  unfold w_X10_trouble_c57 at h
  exact gg_lret hG dX10_trouble_57 rfl ⟨_, rfl, h⟩
def w_X10_trouble_c16  (u : gg_M)  (Q : Int64 → gg_M → Prop) : Prop :=
  w_X10_refusal (-2) u (fun v2 u1 =>
  Q v2 u1)
set_option maxRecDepth 10000 in
theorem m_X10_trouble_c16  {u : gg_M}  {G : gg_T} {Q : Int64 → gg_M → Prop} (hG : gg_Cl none cX10_trouble 4 RX10 (some .long) 6 (gg_eJ Q) G)  (h : w_X10_trouble_c16  u  Q)   : G 16 [none, none, none, none] [] u := by
  unfold w_X10_trouble_c16 at h
  refine gg_bipush (v := (-2)) hG dX10_trouble_16 (by decide) ?_
  refine gg_xs (As := [.int (-2)]) (st := []) hG dX10_trouble_18 ml_RX10_148 Y_X10_refusal YS_X10_refusal (mt_X10_refusal h) rfl (by decide) (Nat.le_of_ble_eq_true rfl) rfl (gg_kj (fun v2 u1 h => ?_))
  exact gg_lret hG dX10_trouble_21 rfl ⟨_, rfl, h⟩
def w_X10_trouble (a1 : Int32) (a2 : Int32) (u : gg_M)  (Q : Int64 → gg_M → Prop) : Prop :=
  w_X10_isBelow a1 5 u (fun v4 u3 =>
  (v4 = 0 →
   w_X10_trouble_c16 u3 Q) ∧
  (¬ v4 = 0 →
   w_X10_isBelow a2 2 u3 (fun v7 u6 =>
   (¬ v7 = 0 →
    w_X10_known u6 (fun v10 u9 =>
    v10 = 15 ∧
    (¬ (u9.1 15 10) = 0 →
     w_X1_weightWith a1 u9 (fun v13 u12 =>
     w_X10_told v13.toInt64 ((u12.1 15 10).toInt64) a2 u12 (fun v15 u14 =>
     w_X10_trouble_c57 v15 u14 Q))) ∧
    ((u9.1 15 10) = 0 →
     w_X10_refusal (-3) u9 (fun v17 u16 =>
     w_X10_trouble_c57 v17 u16 Q)))) ∧
   (v7 = 0 →
    w_X10_trouble_c16 u6 Q))))
set_option maxRecDepth 10000 in
theorem m_X10_trouble {a1 : Int32} {a2 : Int32} {u : gg_M}  {G : gg_T} {Q : Int64 → gg_M → Prop} (hG : gg_Cl none cX10_trouble 4 RX10 (some .long) 6 (gg_eJ Q) G)  (h : w_X10_trouble a1 a2 u  Q)   : G 0 [some (.ref 0), some (.int a1), some (.int a2), none] [] u := by
  unfold w_X10_trouble at h
  refine gg_iload_n hG dX10_trouble_0 rfl rfl ?_
  refine gg_iconst (v := 5) hG dX10_trouble_1 (by decide) ?_
  refine gg_xs (As := [.int a1, .int 5]) (st := []) hG dX10_trouble_2 ml_RX10_84 Y_X10_isBelow YS_X10_isBelow (mt_X10_isBelow h) rfl (by decide) (Nat.le_of_ble_eq_true rfl) rfl (gg_ki (fun v4 u3 h => ?_))
  refine gg_if_eq (tgt := 16) hG dX10_trouble_5 (by decide) (fun c5 => ?_) (fun c5 => ?_)
  · replace h := h.1 c5
    refine gg_mk hG [false, false, false, false] rfl ?_
    exact m_X10_trouble_c16 hG h
  · replace h := h.2 c5
    refine gg_iload_n hG dX10_trouble_8 rfl rfl ?_
    refine gg_iconst (v := 2) hG dX10_trouble_9 (by decide) ?_
    refine gg_xs (As := [.int a2, .int 2]) (st := []) hG dX10_trouble_10 ml_RX10_84 Y_X10_isBelow YS_X10_isBelow (mt_X10_isBelow h) rfl (by decide) (Nat.le_of_ble_eq_true rfl) rfl (gg_ki (fun v7 u6 h => ?_))
    refine gg_if_ne (tgt := 22) hG dX10_trouble_13 (by decide) (fun c8 => ?_) (fun c8 => ?_)
    · replace h := h.1 c8
      refine gg_aload_n hG dX10_trouble_22 rfl rfl ?_
      refine gg_xv (As := []) (st := []) hG dX10_trouble_23 ml_RX10_137 Y_X10_known YV_X10_known (by decide) ⟨_, rfl, rfl⟩ (mt_X10_known h) rfl (by decide) (Nat.le_of_ble_eq_true rfl) rfl (gg_kr (fun v10 u9 h => ?_))
      obtain ⟨rfl, h⟩ := h
      refine gg_astore_n (L1 := [some (.ref 0), some (.int a1), some (.int a2), some (.ref 15)]) hG dX10_trouble_26 rfl (by decide) rfl ?_
      refine gg_aload_n hG dX10_trouble_27 rfl rfl ?_
      refine gg_get (v := .int (u9.1 15 10)) hG dX10_trouble_28 (by decide) rfl fl_RX10_152 rfl ?_
      refine gg_if_ne (tgt := 42) hG dX10_trouble_31 (by decide) (fun c11 => ?_) (fun c11 => ?_)
      · replace h := h.1 c11
        refine gg_aload_n hG dX10_trouble_42 rfl rfl ?_
        refine gg_iload_n hG dX10_trouble_43 rfl rfl ?_
        refine gg_xv (As := [.int a1]) (st := []) hG dX10_trouble_44 ml_RX10_162 Y_X1_weightWith YV_X1_weightWith (by decide) ⟨_, rfl, rfl⟩ (mt_X1_weightWith h) rfl (by decide) (Nat.le_of_ble_eq_true rfl) rfl (gg_ki (fun v13 u12 h => ?_))
        refine gg_i2l hG dX10_trouble_47 ?_
        refine gg_aload_n hG dX10_trouble_48 rfl rfl ?_
        refine gg_get (v := .int (u12.1 15 10)) hG dX10_trouble_49 (by decide) rfl fl_RX10_152 rfl ?_
        refine gg_i2l hG dX10_trouble_52 ?_
        refine gg_iload_n hG dX10_trouble_53 rfl rfl ?_
        refine gg_xs (As := [.long v13.toInt64, .long (u12.1 15 10).toInt64, .int a2]) (st := []) hG dX10_trouble_54 ml_RX10_158 Y_X10_told YS_X10_told (mt_X10_told h) rfl (by decide) (Nat.le_of_ble_eq_true rfl) rfl (gg_kj (fun v15 u14 h => ?_))
        refine gg_mk hG [false, false, false, false] rfl ?_
        exact m_X10_trouble_c57 hG h
      · replace h := h.2 c11
        refine gg_bipush (v := (-3)) hG dX10_trouble_34 (by decide) ?_
        refine gg_xs (As := [.int (-3)]) (st := []) hG dX10_trouble_36 ml_RX10_148 Y_X10_refusal YS_X10_refusal (mt_X10_refusal h) rfl (by decide) (Nat.le_of_ble_eq_true rfl) rfl (gg_kj (fun v17 u16 h => ?_))
        refine gg_goto (tgt := 57) hG dX10_trouble_39 (by decide) ?_
        refine gg_mk hG [false, false, false, false] rfl ?_
        exact m_X10_trouble_c57 hG h
    · replace h := h.2 c8
      refine gg_mk hG [false, false, false, false] rfl ?_
      exact m_X10_trouble_c16 hG h
theorem mt_X10_trouble {a1 : Int32} {a2 : Int32}  {u : gg_M} {Q : Int64 → gg_M → Prop} (h : w_X10_trouble a1 a2 u Q) : gg_Mt 6 yX10_trouble cX10_trouble 4 (some .long) [.ref 0, .int a1, .int a2] u (gg_eJ Q) :=
  gg_intro (own := RX10) (by decide +kernel) rfl rfl (Nat.le_of_ble_eq_true rfl) (fun G hG => m_X10_trouble hG  h)
/-! X10_state -/
def w_X10_state_c18  (u : gg_M)  (Q : Int32 → gg_M → Prop) : Prop :=
  Q (-2) u
set_option maxRecDepth 10000 in
theorem m_X10_state_c18  {u : gg_M}  {G : gg_T} {Q : Int32 → gg_M → Prop} (hG : gg_Cl none cX10_state 3 RX10 (some .int) 6 (gg_eI Q) G)  (h : w_X10_state_c18  u  Q)   : G 18 [none, none, none] [] u := by
  unfold w_X10_state_c18 at h
  refine gg_bipush (v := (-2)) hG dX10_state_18 (by decide) ?_
  exact gg_iret hG dX10_state_20 rfl rfl ⟨_, rfl, h⟩
def w_X10_state (a1 : Int32) (a2 : Int32) (u : gg_M)  (Q : Int32 → gg_M → Prop) : Prop :=
  w_X10_isBelow a1 32 u (fun v2 u1 =>
  (v2 = 0 →
   w_X10_state_c18 u1 Q) ∧
  (¬ v2 = 0 →
   w_X10_isBelow a2 8 u1 (fun v5 u4 =>
   (¬ v5 = 0 →
    w_X10_known u4 (fun v8 u7 =>
    v8 = 15 ∧
    vp_in a1 128 ∧
    w_X7_partOf (u7.2 16 a1.toNatClampNeg) a2 u7 (fun v11 u10 =>
    Q v11 u10))) ∧
   (v5 = 0 →
    w_X10_state_c18 u4 Q))))
set_option maxRecDepth 10000 in
theorem m_X10_state {a1 : Int32} {a2 : Int32} {u : gg_M}  {G : gg_T} {Q : Int32 → gg_M → Prop} (hG : gg_Cl none cX10_state 3 RX10 (some .int) 6 (gg_eI Q) G)  (h : w_X10_state a1 a2 u  Q)   : G 0 [some (.ref 0), some (.int a1), some (.int a2)] [] u := by
  unfold w_X10_state at h
  refine gg_iload_n hG dX10_state_0 rfl rfl ?_
  refine gg_bipush (v := 32) hG dX10_state_1 (by decide) ?_
  refine gg_xs (As := [.int a1, .int 32]) (st := []) hG dX10_state_3 ml_RX10_84 Y_X10_isBelow YS_X10_isBelow (mt_X10_isBelow h) rfl (by decide) (Nat.le_of_ble_eq_true rfl) rfl (gg_ki (fun v2 u1 h => ?_))
  refine gg_if_eq (tgt := 18) hG dX10_state_6 (by decide) (fun c3 => ?_) (fun c3 => ?_)
  · replace h := h.1 c3
    refine gg_mk hG [false, false, false] rfl ?_
    exact m_X10_state_c18 hG h
  · replace h := h.2 c3
    refine gg_iload_n hG dX10_state_9 rfl rfl ?_
    refine gg_bipush (v := 8) hG dX10_state_10 (by decide) ?_
    refine gg_xs (As := [.int a2, .int 8]) (st := []) hG dX10_state_12 ml_RX10_84 Y_X10_isBelow YS_X10_isBelow (mt_X10_isBelow h) rfl (by decide) (Nat.le_of_ble_eq_true rfl) rfl (gg_ki (fun v5 u4 h => ?_))
    refine gg_if_ne (tgt := 21) hG dX10_state_15 (by decide) (fun c6 => ?_) (fun c6 => ?_)
    · replace h := h.1 c6
      refine gg_aload_n hG dX10_state_21 rfl rfl ?_
      refine gg_xv (As := []) (st := []) hG dX10_state_22 ml_RX10_137 Y_X10_known YV_X10_known (by decide) ⟨_, rfl, rfl⟩ (mt_X10_known h) rfl (by decide) (Nat.le_of_ble_eq_true rfl) rfl (gg_kr (fun v8 u7 h => ?_))
      obtain ⟨rfl, h⟩ := h
      refine gg_get (v := .ref 16) hG dX10_state_25 (by decide) rfl fl_RX10_165 rfl ?_
      refine gg_iload_n hG dX10_state_28 rfl rfl ?_
      obtain ⟨h9, h⟩ := h
      refine gg_lald (j := a1.toNatClampNeg) hG dX10_state_29 (by decide) rfl h9 rfl ?_
      refine gg_iload_n hG dX10_state_30 rfl rfl ?_
      refine gg_xs (As := [.long (u7.2 16 a1.toNatClampNeg), .int a2]) (st := []) hG dX10_state_31 ml_RX10_169 Y_X7_partOf YS_X7_partOf (mt_X7_partOf h) rfl (by decide) (Nat.le_of_ble_eq_true rfl) rfl (gg_ki (fun v11 u10 h => ?_))
      exact gg_iret hG dX10_state_34 rfl rfl ⟨_, rfl, h⟩
    · replace h := h.2 c6
      refine gg_mk hG [false, false, false] rfl ?_
      exact m_X10_state_c18 hG h
theorem mt_X10_state {a1 : Int32} {a2 : Int32}  {u : gg_M} {Q : Int32 → gg_M → Prop} (h : w_X10_state a1 a2 u Q) : gg_Mt 6 yX10_state cX10_state 3 (some .int) [.ref 0, .int a1, .int a2] u (gg_eI Q) :=
  gg_intro (own := RX10) (by decide +kernel) rfl rfl (Nat.le_of_ble_eq_true rfl) (fun G hG => m_X10_state hG  h)
/-! X10_sign -/
def w_X10_sign_c18  (u : gg_M)  (Q : Int32 → gg_M → Prop) : Prop :=
  Q (-2) u
set_option maxRecDepth 10000 in
theorem m_X10_sign_c18  {u : gg_M}  {G : gg_T} {Q : Int32 → gg_M → Prop} (hG : gg_Cl none cX10_sign 3 RX10 (some .int) 6 (gg_eI Q) G)  (h : w_X10_sign_c18  u  Q)   : G 18 [none, none, none] [] u := by
  unfold w_X10_sign_c18 at h
  refine gg_bipush (v := (-2)) hG dX10_sign_18 (by decide) ?_
  exact gg_iret hG dX10_sign_20 rfl rfl ⟨_, rfl, h⟩
def w_X10_sign (a1 : Int32) (a2 : Int32) (u : gg_M)  (Q : Int32 → gg_M → Prop) : Prop :=
  w_X10_isBelow a1 32 u (fun v2 u1 =>
  (v2 = 0 →
   w_X10_sign_c18 u1 Q) ∧
  (¬ v2 = 0 →
   w_X10_isBelow a2 10 u1 (fun v5 u4 =>
   (¬ v5 = 0 →
    w_X10_known u4 (fun v8 u7 =>
    v8 = 15 ∧
    vp_in a1 128 ∧
    w_X7_unpack 30 (u7.2 16 a1.toNatClampNeg) u7 (fun u10 =>
    w_X7_does 30 a2 u10 (fun v12 u11 =>
    Q v12 u11)))) ∧
   (v5 = 0 →
    w_X10_sign_c18 u4 Q))))
set_option maxRecDepth 10000 in
theorem m_X10_sign {a1 : Int32} {a2 : Int32} {u : gg_M}  {G : gg_T} {Q : Int32 → gg_M → Prop} (hG : gg_Cl none cX10_sign 3 RX10 (some .int) 6 (gg_eI Q) G)  (h : w_X10_sign a1 a2 u  Q)   : G 0 [some (.ref 0), some (.int a1), some (.int a2)] [] u := by
  unfold w_X10_sign at h
  refine gg_iload_n hG dX10_sign_0 rfl rfl ?_
  refine gg_bipush (v := 32) hG dX10_sign_1 (by decide) ?_
  refine gg_xs (As := [.int a1, .int 32]) (st := []) hG dX10_sign_3 ml_RX10_84 Y_X10_isBelow YS_X10_isBelow (mt_X10_isBelow h) rfl (by decide) (Nat.le_of_ble_eq_true rfl) rfl (gg_ki (fun v2 u1 h => ?_))
  refine gg_if_eq (tgt := 18) hG dX10_sign_6 (by decide) (fun c3 => ?_) (fun c3 => ?_)
  · replace h := h.1 c3
    refine gg_mk hG [false, false, false] rfl ?_
    exact m_X10_sign_c18 hG h
  · replace h := h.2 c3
    refine gg_iload_n hG dX10_sign_9 rfl rfl ?_
    refine gg_bipush (v := 10) hG dX10_sign_10 (by decide) ?_
    refine gg_xs (As := [.int a2, .int 10]) (st := []) hG dX10_sign_12 ml_RX10_84 Y_X10_isBelow YS_X10_isBelow (mt_X10_isBelow h) rfl (by decide) (Nat.le_of_ble_eq_true rfl) rfl (gg_ki (fun v5 u4 h => ?_))
    refine gg_if_ne (tgt := 21) hG dX10_sign_15 (by decide) (fun c6 => ?_) (fun c6 => ?_)
    · replace h := h.1 c6
      refine gg_aload_n hG dX10_sign_21 rfl rfl ?_
      refine gg_get (v := .ref 30) hG dX10_sign_22 (by decide) rfl fl_RX10_66 rfl ?_
      refine gg_aload_n hG dX10_sign_25 rfl rfl ?_
      refine gg_xv (As := []) (st := [.ref 30]) hG dX10_sign_26 ml_RX10_137 Y_X10_known YV_X10_known (by decide) ⟨_, rfl, rfl⟩ (mt_X10_known h) rfl (by decide) (Nat.le_of_ble_eq_true rfl) rfl (gg_kr (fun v8 u7 h => ?_))
      obtain ⟨rfl, h⟩ := h
      refine gg_get (v := .ref 16) hG dX10_sign_29 (by decide) rfl fl_RX10_165 rfl ?_
      refine gg_iload_n hG dX10_sign_32 rfl rfl ?_
      obtain ⟨h9, h⟩ := h
      refine gg_lald (j := a1.toNatClampNeg) hG dX10_sign_33 (by decide) rfl h9 rfl ?_
      refine gg_xv (As := [.long (u7.2 16 a1.toNatClampNeg)]) (st := []) hG dX10_sign_34 ml_RX10_173 Y_X7_unpack YV_X7_unpack (by decide) ⟨_, rfl, rfl⟩ (mt_X7_unpack rfl h) rfl (by decide) (Nat.le_of_ble_eq_true rfl) rfl (gg_kv (fun u10 h => ?_))
      refine gg_aload_n hG dX10_sign_37 rfl rfl ?_
      refine gg_get (v := .ref 30) hG dX10_sign_38 (by decide) rfl fl_RX10_66 rfl ?_
      refine gg_aload_n hG dX10_sign_41 rfl rfl ?_
      refine gg_get (v := .ref 6) hG dX10_sign_42 (by decide) rfl fl_RX10_24 rfl ?_
      refine gg_iload_n hG dX10_sign_45 rfl rfl ?_
      refine gg_xv (As := [.ref 6, .int a2]) (st := []) hG dX10_sign_46 ml_RX10_177 Y_X7_does YV_X7_does (by decide) ⟨_, rfl, rfl⟩ (mt_X7_does rfl h) rfl (by decide) (Nat.le_of_ble_eq_true rfl) rfl (gg_ki (fun v12 u11 h => ?_))
      exact gg_iret hG dX10_sign_49 rfl rfl ⟨_, rfl, h⟩
    · replace h := h.2 c6
      refine gg_mk hG [false, false, false] rfl ?_
      exact m_X10_sign_c18 hG h
theorem mt_X10_sign {a1 : Int32} {a2 : Int32}  {u : gg_M} {Q : Int32 → gg_M → Prop} (h : w_X10_sign a1 a2 u Q) : gg_Mt 6 yX10_sign cX10_sign 3 (some .int) [.ref 0, .int a1, .int a2] u (gg_eI Q) :=
  gg_intro (own := RX10) (by decide +kernel) rfl rfl (Nat.le_of_ble_eq_true rfl) (fun G hG => m_X10_sign hG  h)
/-! X10_chance -/
def w_X10_chance_c26  (u : gg_M)  (Q : Int64 → gg_M → Prop) : Prop :=
  w_X10_refusal (-2) u (fun v2 u1 =>
  Q v2 u1)
set_option maxRecDepth 10000 in
theorem m_X10_chance_c26  {u : gg_M}  {G : gg_T} {Q : Int64 → gg_M → Prop} (hG : gg_Cl none cX10_chance 5 RX10 (some .long) 6 (gg_eJ Q) G)  (h : w_X10_chance_c26  u  Q)   : G 26 [none, none, none, none, none] [] u := by
  unfold w_X10_chance_c26 at h
  refine gg_bipush (v := (-2)) hG dX10_chance_26 (by decide) ?_
  refine gg_xs (As := [.int (-2)]) (st := []) hG dX10_chance_28 ml_RX10_148 Y_X10_refusal YS_X10_refusal (mt_X10_refusal h) rfl (by decide) (Nat.le_of_ble_eq_true rfl) rfl (gg_kj (fun v2 u1 h => ?_))
  exact gg_lret hG dX10_chance_31 rfl ⟨_, rfl, h⟩
def w_X10_chance (a1 : Int32) (a2 : Int32) (a3 : Int32) (u : gg_M)  (Q : Int64 → gg_M → Prop) : Prop :=
  w_X10_isBelow a1 10 u (fun v4 u3 =>
  (v4 = 0 →
   w_X10_chance_c26 u3 Q) ∧
  (¬ v4 = 0 →
   w_X10_isBelow a2 7 u3 (fun v7 u6 =>
   (v7 = 0 →
    w_X10_chance_c26 u6 Q) ∧
   (¬ v7 = 0 →
    w_X10_isBelow a3 2 u6 (fun v10 u9 =>
    (¬ v10 = 0 →
     w_X10_known u9 (fun v13 u12 =>
     v13 = 15 ∧
     (¬ (u12.1 15 10) = 0 →
      w_X1_part (u12.1 15 9) a1 0 u12 (fun u15 =>
      vp_in a2 7 ∧
      w_X10_told ((u15.1 23 a2.toNatClampNeg).toInt64) ((u15.1 15 10).toInt64) a3 u15 (fun v18 u17 =>
      Q v18 u17))) ∧
     ((u12.1 15 10) = 0 →
      w_X10_refusal (-3) u12 (fun v20 u19 =>
      Q v20 u19)))) ∧
    (v10 = 0 →
     w_X10_chance_c26 u9 Q))))))
set_option maxRecDepth 10000 in
theorem m_X10_chance {a1 : Int32} {a2 : Int32} {a3 : Int32} {u : gg_M}  {G : gg_T} {Q : Int64 → gg_M → Prop} (hG : gg_Cl none cX10_chance 5 RX10 (some .long) 6 (gg_eJ Q) G)  (h : w_X10_chance a1 a2 a3 u  Q)   : G 0 [some (.ref 0), some (.int a1), some (.int a2), some (.int a3), none] [] u := by
  unfold w_X10_chance at h
  refine gg_iload_n hG dX10_chance_0 rfl rfl ?_
  refine gg_bipush (v := 10) hG dX10_chance_1 (by decide) ?_
  refine gg_xs (As := [.int a1, .int 10]) (st := []) hG dX10_chance_3 ml_RX10_84 Y_X10_isBelow YS_X10_isBelow (mt_X10_isBelow h) rfl (by decide) (Nat.le_of_ble_eq_true rfl) rfl (gg_ki (fun v4 u3 h => ?_))
  refine gg_if_eq (tgt := 26) hG dX10_chance_6 (by decide) (fun c5 => ?_) (fun c5 => ?_)
  · replace h := h.1 c5
    refine gg_mk hG [false, false, false, false, false] rfl ?_
    exact m_X10_chance_c26 hG h
  · replace h := h.2 c5
    refine gg_iload_n hG dX10_chance_9 rfl rfl ?_
    refine gg_bipush (v := 7) hG dX10_chance_10 (by decide) ?_
    refine gg_xs (As := [.int a2, .int 7]) (st := []) hG dX10_chance_12 ml_RX10_84 Y_X10_isBelow YS_X10_isBelow (mt_X10_isBelow h) rfl (by decide) (Nat.le_of_ble_eq_true rfl) rfl (gg_ki (fun v7 u6 h => ?_))
    refine gg_if_eq (tgt := 26) hG dX10_chance_15 (by decide) (fun c8 => ?_) (fun c8 => ?_)
    · replace h := h.1 c8
      refine gg_mk hG [false, false, false, false, false] rfl ?_
      exact m_X10_chance_c26 hG h
    · replace h := h.2 c8
      refine gg_iload_n hG dX10_chance_18 rfl rfl ?_
      refine gg_iconst (v := 2) hG dX10_chance_19 (by decide) ?_
      refine gg_xs (As := [.int a3, .int 2]) (st := []) hG dX10_chance_20 ml_RX10_84 Y_X10_isBelow YS_X10_isBelow (mt_X10_isBelow h) rfl (by decide) (Nat.le_of_ble_eq_true rfl) rfl (gg_ki (fun v10 u9 h => ?_))
      refine gg_if_ne (tgt := 32) hG dX10_chance_23 (by decide) (fun c11 => ?_) (fun c11 => ?_)
      · replace h := h.1 c11
        refine gg_aload_n hG dX10_chance_32 rfl rfl ?_
        refine gg_xv (As := []) (st := []) hG dX10_chance_33 ml_RX10_137 Y_X10_known YV_X10_known (by decide) ⟨_, rfl, rfl⟩ (mt_X10_known h) rfl (by decide) (Nat.le_of_ble_eq_true rfl) rfl (gg_kr (fun v13 u12 h => ?_))
        obtain ⟨rfl, h⟩ := h
        refine gg_astore (L1 := [some (.ref 0), some (.int a1), some (.int a2), some (.int a3), some (.ref 15)]) hG dX10_chance_36 (by decide) rfl ?_
        refine gg_aload hG dX10_chance_38 rfl ?_
        refine gg_get (v := .int (u12.1 15 10)) hG dX10_chance_40 (by decide) rfl fl_RX10_152 rfl ?_
        refine gg_if_ne (tgt := 52) hG dX10_chance_43 (by decide) (fun c14 => ?_) (fun c14 => ?_)
        · replace h := h.1 c14
          refine gg_aload hG dX10_chance_52 rfl ?_
          refine gg_aload_n hG dX10_chance_54 rfl rfl ?_
          refine gg_get (v := .ref 6) hG dX10_chance_55 (by decide) rfl fl_RX10_24 rfl ?_
          refine gg_aload hG dX10_chance_58 rfl ?_
          refine gg_get (v := .int (u12.1 15 9)) hG dX10_chance_60 (by decide) rfl fl_RX10_140 rfl ?_
          refine gg_iload_n hG dX10_chance_63 rfl rfl ?_
          refine gg_iconst (v := 0) hG dX10_chance_64 (by decide) ?_
          refine gg_xv (As := [.ref 6, .int (u12.1 15 9), .int a1, .int 0]) (st := []) hG dX10_chance_65 ml_RX10_181 Y_X1_part YV_X1_part (by decide) ⟨_, rfl, rfl⟩ (mt_X1_part h) rfl (by decide) (Nat.le_of_ble_eq_true rfl) rfl (gg_kv (fun u15 h => ?_))
          refine gg_aload hG dX10_chance_68 rfl ?_
          refine gg_get (v := .ref 22) hG dX10_chance_70 (by decide) rfl fl_RX10_185 rfl ?_
          refine gg_iconst (v := 0) hG dX10_chance_73 (by decide) ?_
          refine gg_aald (j := 0) (r := 23) hG dX10_chance_74 (by decide) (Or.inr rfl) (gg_vin (by decide +kernel)) (by decide) rfl ?_
          refine gg_iload_n hG dX10_chance_75 rfl rfl ?_
          obtain ⟨h16, h⟩ := h
          refine gg_iald (j := a2.toNatClampNeg) hG dX10_chance_76 (by decide) rfl h16 rfl ?_
          refine gg_i2l hG dX10_chance_77 ?_
          refine gg_aload hG dX10_chance_78 rfl ?_
          refine gg_get (v := .int (u15.1 15 10)) hG dX10_chance_80 (by decide) rfl fl_RX10_152 rfl ?_
          refine gg_i2l hG dX10_chance_83 ?_
          refine gg_iload_n hG dX10_chance_84 rfl rfl ?_
          refine gg_xs (As := [.long (u15.1 23 a2.toNatClampNeg).toInt64, .long (u15.1 15 10).toInt64, .int a3]) (st := []) hG dX10_chance_85 ml_RX10_158 Y_X10_told YS_X10_told (mt_X10_told h) rfl (by decide) (Nat.le_of_ble_eq_true rfl) rfl (gg_kj (fun v18 u17 h => ?_))
          exact gg_lret hG dX10_chance_88 rfl ⟨_, rfl, h⟩
        · replace h := h.2 c14
          refine gg_bipush (v := (-3)) hG dX10_chance_46 (by decide) ?_
          refine gg_xs (As := [.int (-3)]) (st := []) hG dX10_chance_48 ml_RX10_148 Y_X10_refusal YS_X10_refusal (mt_X10_refusal h) rfl (by decide) (Nat.le_of_ble_eq_true rfl) rfl (gg_kj (fun v20 u19 h => ?_))
          exact gg_lret hG dX10_chance_51 rfl ⟨_, rfl, h⟩
      · replace h := h.2 c11
        refine gg_mk hG [false, false, false, false, false] rfl ?_
        exact m_X10_chance_c26 hG h
theorem mt_X10_chance {a1 : Int32} {a2 : Int32} {a3 : Int32}  {u : gg_M} {Q : Int64 → gg_M → Prop} (h : w_X10_chance a1 a2 a3 u Q) : gg_Mt 6 yX10_chance cX10_chance 5 (some .long) [.ref 0, .int a1, .int a2, .int a3] u (gg_eJ Q) :=
  gg_intro (own := RX10) (by decide +kernel) rfl rfl (Nat.le_of_ble_eq_true rfl) (fun G hG => m_X10_chance hG  h)
/-! X10_parts -/
def w_X10_parts_c71 (a4 : Int32) (z0 : Int32) (z1 : Int32) (u : gg_M) (k46 : Int32 × Int32 × gg_M → Prop) (Q : Int32 → gg_M → Prop) : Prop :=
  ∀ v1 : Int32, v1 = (z0 + z1) →
  k46 (v1, (a4 + 1), u)
set_option maxRecDepth 10000 in
theorem m_X10_parts_c71 {a4 : Int32} {z0 : Int32} {z1 : Int32} {u : gg_M} {k46 : Int32 × Int32 × gg_M → Prop} {G : gg_T} {Q : Int32 → gg_M → Prop} (hG : gg_Cl none cX10_parts 5 RX10 (some .int) 6 (gg_eI Q) G)  (h : w_X10_parts_c71 a4 z0 z1 u k46 Q)  (hk46 : ∀ s : Int32 × Int32 × gg_M, k46 s → G 46 [none, none, some (.ref 15), some (.int s.1), some (.int s.2.1)] [] s.2.2) : G 71 [none, none, some (.ref 15), none, some (.int a4)] [.int z1, .int z0] u := by
  unfold w_X10_parts_c71 at h
  refine gg_iadd hG dX10_parts_71 ?_
  refine gg_ni (fun v1 e1 => ?_)
  replace h := h v1 e1
  refine gg_istore_n (L1 := [none, none, some (.ref 15), some (.int v1), some (.int a4)]) hG dX10_parts_72 rfl (by decide) rfl ?_
  refine gg_iinc (v := (a4 + 1)) (L1 := [none, none, some (.ref 15), some (.int v1), some (.int (a4 + 1))]) hG dX10_parts_73 rfl rfl (by decide) rfl ?_
  refine gg_goto (tgt := 46) hG dX10_parts_76 (by decide) ?_
  exact hk46 _ h
def b_X10_parts_c46  (a3 : Int32) (a4 : Int32) (u : gg_M)  (k46 : Int32 × Int32 × gg_M → Prop) (Q : Int32 → gg_M → Prop) : Prop :=
  (7 ≤ a4 →
   Q a3 u) ∧
  (¬ 7 ≤ a4 →
   vp_in a4 7 ∧
   ((u.1 19 a4.toNatClampNeg) = 0 →
    w_X10_parts_c71 a4 a3 0 u k46 Q) ∧
   (¬ (u.1 19 a4.toNatClampNeg) = 0 →
    w_X10_parts_c71 a4 a3 1 u k46 Q))
set_option maxRecDepth 10000 in
theorem mb_X10_parts_c46  {a3 : Int32} {a4 : Int32} {u : gg_M}  {k46 : Int32 × Int32 × gg_M → Prop} {G : gg_T} {Q : Int32 → gg_M → Prop} (hG : gg_Cl none cX10_parts 5 RX10 (some .int) 6 (gg_eI Q) G)  (h : b_X10_parts_c46 a3 a4 u k46 Q)   (hk46 : ∀ s : Int32 × Int32 × gg_M, k46 s → G 46 [none, none, some (.ref 15), some (.int s.1), some (.int s.2.1)] [] s.2.2) : G 46 [none, none, some (.ref 15), some (.int a3), some (.int a4)] [] u := by
  unfold b_X10_parts_c46 at h
  refine gg_iload hG dX10_parts_46 rfl ?_
  refine gg_bipush (v := 7) hG dX10_parts_48 (by decide) ?_
  refine gg_ic_ge (tgt := 79) hG dX10_parts_50 (by decide) (fun c2 => ?_) (fun c2 => ?_)
  · replace h := h.1 c2
    refine gg_iload_n hG dX10_parts_79 rfl rfl ?_
    exact gg_iret hG dX10_parts_80 rfl rfl ⟨_, rfl, h⟩
  · replace h := h.2 c2
    refine gg_iload_n hG dX10_parts_53 rfl rfl ?_
    refine gg_aload_n hG dX10_parts_54 rfl rfl ?_
    refine gg_get (v := .ref 18) hG dX10_parts_55 (by decide) rfl fl_RX10_189 rfl ?_
    refine gg_iconst (v := 0) hG dX10_parts_58 (by decide) ?_
    refine gg_aald (j := 0) (r := 19) hG dX10_parts_59 (by decide) (Or.inr rfl) (gg_vin (by decide +kernel)) (by decide) rfl ?_
    refine gg_iload hG dX10_parts_60 rfl ?_
    obtain ⟨h3, h⟩ := h
    refine gg_iald (j := a4.toNatClampNeg) hG dX10_parts_62 (by decide) rfl h3 rfl ?_
    refine gg_if_eq (tgt := 70) hG dX10_parts_63 (by decide) (fun c4 => ?_) (fun c4 => ?_)
    · replace h := h.1 c4
      refine gg_iconst (v := 0) hG dX10_parts_70 (by decide) ?_
      refine gg_mk hG [false, false, true, false, true] rfl ?_
      exact m_X10_parts_c71 hG h hk46
    · replace h := h.2 c4
      refine gg_iconst (v := 1) hG dX10_parts_66 (by decide) ?_
      refine gg_goto (tgt := 71) hG dX10_parts_67 (by decide) ?_
      refine gg_mk hG [false, false, true, false, true] rfl ?_
      exact m_X10_parts_c71 hG h hk46
def w_X10_parts_c46 (a3 : Int32) (a4 : Int32) (u : gg_M)  (Q : Int32 → gg_M → Prop) : Prop :=
  gg_loop (fun (s : Int32 × Int32 × gg_M) k46 => b_X10_parts_c46  s.1 s.2.1 s.2.2  k46 Q) (a3, a4, u)
set_option maxRecDepth 10000 in
theorem m_X10_parts_c46 {a3 : Int32} {a4 : Int32} {u : gg_M}  {G : gg_T} {Q : Int32 → gg_M → Prop} (hG : gg_Cl none cX10_parts 5 RX10 (some .int) 6 (gg_eI Q) G)  (h : w_X10_parts_c46 a3 a4 u  Q)   : G 46 [none, none, some (.ref 15), some (.int a3), some (.int a4)] [] u :=
  gg_loop_use (P := fun s : Int32 × Int32 × gg_M => G 46 [none, none, some (.ref 15), some (.int s.1), some (.int s.2.1)] [] s.2.2) h (fun s rc hb hr => mb_X10_parts_c46 hG  hb   hr)
def w_X10_parts (a1 : Int32) (u : gg_M)  (Q : Int32 → gg_M → Prop) : Prop :=
  w_X10_isBelow a1 10 u (fun v6 u5 =>
  (¬ v6 = 0 →
   w_X10_known u5 (fun v9 u8 =>
   v9 = 15 ∧
   (¬ (u8.1 15 10) = 0 →
    w_X1_part (u8.1 15 9) a1 0 u8 (fun u11 =>
    w_X10_parts_c46 0 0 u11 Q)) ∧
   ((u8.1 15 10) = 0 →
    Q (-3) u8))) ∧
  (v6 = 0 →
   Q (-2) u5))
set_option maxRecDepth 10000 in
theorem m_X10_parts {a1 : Int32} {u : gg_M}  {G : gg_T} {Q : Int32 → gg_M → Prop} (hG : gg_Cl none cX10_parts 5 RX10 (some .int) 6 (gg_eI Q) G)  (h : w_X10_parts a1 u  Q)   : G 0 [some (.ref 0), some (.int a1), none, none, none] [] u := by
  unfold w_X10_parts at h
  refine gg_iload_n hG dX10_parts_0 rfl rfl ?_
  refine gg_bipush (v := 10) hG dX10_parts_1 (by decide) ?_
  refine gg_xs (As := [.int a1, .int 10]) (st := []) hG dX10_parts_3 ml_RX10_84 Y_X10_isBelow YS_X10_isBelow (mt_X10_isBelow h) rfl (by decide) (Nat.le_of_ble_eq_true rfl) rfl (gg_ki (fun v6 u5 h => ?_))
  refine gg_if_ne (tgt := 12) hG dX10_parts_6 (by decide) (fun c7 => ?_) (fun c7 => ?_)
  · replace h := h.1 c7
    refine gg_aload_n hG dX10_parts_12 rfl rfl ?_
    refine gg_xv (As := []) (st := []) hG dX10_parts_13 ml_RX10_137 Y_X10_known YV_X10_known (by decide) ⟨_, rfl, rfl⟩ (mt_X10_known h) rfl (by decide) (Nat.le_of_ble_eq_true rfl) rfl (gg_kr (fun v9 u8 h => ?_))
    obtain ⟨rfl, h⟩ := h
    refine gg_astore_n (L1 := [some (.ref 0), some (.int a1), some (.ref 15), none, none]) hG dX10_parts_16 rfl (by decide) rfl ?_
    refine gg_aload_n hG dX10_parts_17 rfl rfl ?_
    refine gg_get (v := .int (u8.1 15 10)) hG dX10_parts_18 (by decide) rfl fl_RX10_152 rfl ?_
    refine gg_if_ne (tgt := 27) hG dX10_parts_21 (by decide) (fun c10 => ?_) (fun c10 => ?_)
    · replace h := h.1 c10
      refine gg_aload_n hG dX10_parts_27 rfl rfl ?_
      refine gg_aload_n hG dX10_parts_28 rfl rfl ?_
      refine gg_get (v := .ref 6) hG dX10_parts_29 (by decide) rfl fl_RX10_24 rfl ?_
      refine gg_aload_n hG dX10_parts_32 rfl rfl ?_
      refine gg_get (v := .int (u8.1 15 9)) hG dX10_parts_33 (by decide) rfl fl_RX10_140 rfl ?_
      refine gg_iload_n hG dX10_parts_36 rfl rfl ?_
      refine gg_iconst (v := 0) hG dX10_parts_37 (by decide) ?_
      refine gg_xv (As := [.ref 6, .int (u8.1 15 9), .int a1, .int 0]) (st := []) hG dX10_parts_38 ml_RX10_181 Y_X1_part YV_X1_part (by decide) ⟨_, rfl, rfl⟩ (mt_X1_part h) rfl (by decide) (Nat.le_of_ble_eq_true rfl) rfl (gg_kv (fun u11 h => ?_))
      refine gg_iconst (v := 0) hG dX10_parts_41 (by decide) ?_
      refine gg_istore_n (L1 := [some (.ref 0), some (.int a1), some (.ref 15), some (.int 0), none]) hG dX10_parts_42 rfl (by decide) rfl ?_
      refine gg_iconst (v := 0) hG dX10_parts_43 (by decide) ?_
      refine gg_istore (L1 := [some (.ref 0), some (.int a1), some (.ref 15), some (.int 0), some (.int 0)]) hG dX10_parts_44 (by decide) rfl ?_
      refine gg_mk hG [false, false, true, true, true] rfl ?_
      exact m_X10_parts_c46 hG h
    · replace h := h.2 c10
      refine gg_bipush (v := (-3)) hG dX10_parts_24 (by decide) ?_
      exact gg_iret hG dX10_parts_26 rfl rfl ⟨_, rfl, h⟩
  · replace h := h.2 c7
    refine gg_bipush (v := (-2)) hG dX10_parts_9 (by decide) ?_
    exact gg_iret hG dX10_parts_11 rfl rfl ⟨_, rfl, h⟩
theorem mt_X10_parts {a1 : Int32}  {u : gg_M} {Q : Int32 → gg_M → Prop} (h : w_X10_parts a1 u Q) : gg_Mt 6 yX10_parts cX10_parts 5 (some .int) [.ref 0, .int a1] u (gg_eI Q) :=
  gg_intro (own := RX10) (by decide +kernel) rfl rfl (Nat.le_of_ble_eq_true rfl) (fun G hG => m_X10_parts hG  h)
/-! X10_sure -/
def b_X10_sure_c61 (a2 : Int32) (a4 : Int32) (a5 : Int32) (u : gg_M)  (k61 : Int32 × Int32 × gg_M → Prop) (Q : Int64 → gg_M → Prop) : Prop :=
  (7 ≤ a5 →
   w_X10_told a4.toInt64 ((u.1 15 10).toInt64) a2 u (fun v3 u2 =>
   Q v3 u2)) ∧
  (¬ 7 ≤ a5 →
   vp_in a5 7 ∧
   w_X1_heaviestOf (u.1 19 a5.toNatClampNeg) u (fun v6 u5 =>
   ∀ v7 : Int32, v7 = (a4 + v6) →
   k61 (v7, (a5 + 1), u5)))
set_option maxRecDepth 10000 in
theorem mb_X10_sure_c61 {a2 : Int32} {a4 : Int32} {a5 : Int32} {u : gg_M}  {k61 : Int32 × Int32 × gg_M → Prop} {G : gg_T} {Q : Int64 → gg_M → Prop} (hG : gg_Cl none cX10_sure 6 RX10 (some .long) 6 (gg_eJ Q) G)  (h : b_X10_sure_c61 a2 a4 a5 u k61 Q)   (hk61 : ∀ s : Int32 × Int32 × gg_M, k61 s → G 61 [none, none, some (.int a2), some (.ref 15), some (.int s.1), some (.int s.2.1)] [] s.2.2) : G 61 [none, none, some (.int a2), some (.ref 15), some (.int a4), some (.int a5)] [] u := by
  unfold b_X10_sure_c61 at h
  refine gg_iload hG dX10_sure_61 rfl ?_
  refine gg_bipush (v := 7) hG dX10_sure_63 (by decide) ?_
  refine gg_ic_ge (tgt := 92) hG dX10_sure_65 (by decide) (fun c1 => ?_) (fun c1 => ?_)
  · replace h := h.1 c1
    refine gg_iload hG dX10_sure_92 rfl ?_
    refine gg_i2l hG dX10_sure_94 ?_
    refine gg_aload_n hG dX10_sure_95 rfl rfl ?_
    refine gg_get (v := .int (u.1 15 10)) hG dX10_sure_96 (by decide) rfl fl_RX10_152 rfl ?_
    refine gg_i2l hG dX10_sure_99 ?_
    refine gg_iload_n hG dX10_sure_100 rfl rfl ?_
    refine gg_xs (As := [.long a4.toInt64, .long (u.1 15 10).toInt64, .int a2]) (st := []) hG dX10_sure_101 ml_RX10_158 Y_X10_told YS_X10_told (mt_X10_told h) rfl (by decide) (Nat.le_of_ble_eq_true rfl) rfl (gg_kj (fun v3 u2 h => ?_))
    exact gg_lret hG dX10_sure_104 rfl ⟨_, rfl, h⟩
  · replace h := h.2 c1
    refine gg_iload hG dX10_sure_68 rfl ?_
    refine gg_aload_n hG dX10_sure_70 rfl rfl ?_
    refine gg_aload_n hG dX10_sure_71 rfl rfl ?_
    refine gg_get (v := .ref 18) hG dX10_sure_72 (by decide) rfl fl_RX10_189 rfl ?_
    refine gg_iconst (v := 0) hG dX10_sure_75 (by decide) ?_
    refine gg_aald (j := 0) (r := 19) hG dX10_sure_76 (by decide) (Or.inr rfl) (gg_vin (by decide +kernel)) (by decide) rfl ?_
    refine gg_iload hG dX10_sure_77 rfl ?_
    obtain ⟨h4, h⟩ := h
    refine gg_iald (j := a5.toNatClampNeg) hG dX10_sure_79 (by decide) rfl h4 rfl ?_
    refine gg_xv (As := [.int (u.1 19 a5.toNatClampNeg)]) (st := [.int a4]) hG dX10_sure_80 ml_RX10_192 Y_X1_heaviestOf YV_X1_heaviestOf (by decide) ⟨_, rfl, rfl⟩ (mt_X1_heaviestOf h) rfl (by decide) (Nat.le_of_ble_eq_true rfl) rfl (gg_ki (fun v6 u5 h => ?_))
    refine gg_iadd hG dX10_sure_83 ?_
    refine gg_ni (fun v7 e7 => ?_)
    replace h := h v7 e7
    refine gg_istore (L1 := [none, none, some (.int a2), some (.ref 15), some (.int v7), some (.int a5)]) hG dX10_sure_84 (by decide) rfl ?_
    refine gg_iinc (v := (a5 + 1)) (L1 := [none, none, some (.int a2), some (.ref 15), some (.int v7), some (.int (a5 + 1))]) hG dX10_sure_86 rfl rfl (by decide) rfl ?_
    refine gg_goto (tgt := 61) hG dX10_sure_89 (by decide) ?_
    exact hk61 _ h
def w_X10_sure_c61 (a2 : Int32) (a4 : Int32) (a5 : Int32) (u : gg_M)  (Q : Int64 → gg_M → Prop) : Prop :=
  gg_loop (fun (s : Int32 × Int32 × gg_M) k61 => b_X10_sure_c61 a2 s.1 s.2.1 s.2.2  k61 Q) (a4, a5, u)
set_option maxRecDepth 10000 in
theorem m_X10_sure_c61 {a2 : Int32} {a4 : Int32} {a5 : Int32} {u : gg_M}  {G : gg_T} {Q : Int64 → gg_M → Prop} (hG : gg_Cl none cX10_sure 6 RX10 (some .long) 6 (gg_eJ Q) G)  (h : w_X10_sure_c61 a2 a4 a5 u  Q)   : G 61 [none, none, some (.int a2), some (.ref 15), some (.int a4), some (.int a5)] [] u :=
  gg_loop_use (P := fun s : Int32 × Int32 × gg_M => G 61 [none, none, some (.int a2), some (.ref 15), some (.int s.1), some (.int s.2.1)] [] s.2.2) h (fun s rc hb hr => mb_X10_sure_c61 hG  hb   hr)
def w_X10_sure_c17  (u : gg_M)  (Q : Int64 → gg_M → Prop) : Prop :=
  w_X10_refusal (-2) u (fun v9 u8 =>
  Q v9 u8)
set_option maxRecDepth 10000 in
theorem m_X10_sure_c17  {u : gg_M}  {G : gg_T} {Q : Int64 → gg_M → Prop} (hG : gg_Cl none cX10_sure 6 RX10 (some .long) 6 (gg_eJ Q) G)  (h : w_X10_sure_c17  u  Q)   : G 17 [none, none, none, none, none, none] [] u := by
  unfold w_X10_sure_c17 at h
  refine gg_bipush (v := (-2)) hG dX10_sure_17 (by decide) ?_
  refine gg_xs (As := [.int (-2)]) (st := []) hG dX10_sure_19 ml_RX10_148 Y_X10_refusal YS_X10_refusal (mt_X10_refusal h) rfl (by decide) (Nat.le_of_ble_eq_true rfl) rfl (gg_kj (fun v9 u8 h => ?_))
  exact gg_lret hG dX10_sure_22 rfl ⟨_, rfl, h⟩
def w_X10_sure (a1 : Int32) (a2 : Int32) (u : gg_M)  (Q : Int64 → gg_M → Prop) : Prop :=
  w_X10_isBelow a1 10 u (fun v11 u10 =>
  (v11 = 0 →
   w_X10_sure_c17 u10 Q) ∧
  (¬ v11 = 0 →
   w_X10_isBelow a2 2 u10 (fun v14 u13 =>
   (¬ v14 = 0 →
    w_X10_known u13 (fun v17 u16 =>
    v17 = 15 ∧
    (¬ (u16.1 15 10) = 0 →
     w_X1_part (u16.1 15 9) a1 0 u16 (fun u19 =>
     w_X10_sure_c61 a2 0 0 u19 Q)) ∧
    ((u16.1 15 10) = 0 →
     w_X10_refusal (-3) u16 (fun v21 u20 =>
     Q v21 u20)))) ∧
   (v14 = 0 →
    w_X10_sure_c17 u13 Q))))
set_option maxRecDepth 10000 in
theorem m_X10_sure {a1 : Int32} {a2 : Int32} {u : gg_M}  {G : gg_T} {Q : Int64 → gg_M → Prop} (hG : gg_Cl none cX10_sure 6 RX10 (some .long) 6 (gg_eJ Q) G)  (h : w_X10_sure a1 a2 u  Q)   : G 0 [some (.ref 0), some (.int a1), some (.int a2), none, none, none] [] u := by
  unfold w_X10_sure at h
  refine gg_iload_n hG dX10_sure_0 rfl rfl ?_
  refine gg_bipush (v := 10) hG dX10_sure_1 (by decide) ?_
  refine gg_xs (As := [.int a1, .int 10]) (st := []) hG dX10_sure_3 ml_RX10_84 Y_X10_isBelow YS_X10_isBelow (mt_X10_isBelow h) rfl (by decide) (Nat.le_of_ble_eq_true rfl) rfl (gg_ki (fun v11 u10 h => ?_))
  refine gg_if_eq (tgt := 17) hG dX10_sure_6 (by decide) (fun c12 => ?_) (fun c12 => ?_)
  · replace h := h.1 c12
    refine gg_mk hG [false, false, false, false, false, false] rfl ?_
    exact m_X10_sure_c17 hG h
  · replace h := h.2 c12
    refine gg_iload_n hG dX10_sure_9 rfl rfl ?_
    refine gg_iconst (v := 2) hG dX10_sure_10 (by decide) ?_
    refine gg_xs (As := [.int a2, .int 2]) (st := []) hG dX10_sure_11 ml_RX10_84 Y_X10_isBelow YS_X10_isBelow (mt_X10_isBelow h) rfl (by decide) (Nat.le_of_ble_eq_true rfl) rfl (gg_ki (fun v14 u13 h => ?_))
    refine gg_if_ne (tgt := 23) hG dX10_sure_14 (by decide) (fun c15 => ?_) (fun c15 => ?_)
    · replace h := h.1 c15
      refine gg_aload_n hG dX10_sure_23 rfl rfl ?_
      refine gg_xv (As := []) (st := []) hG dX10_sure_24 ml_RX10_137 Y_X10_known YV_X10_known (by decide) ⟨_, rfl, rfl⟩ (mt_X10_known h) rfl (by decide) (Nat.le_of_ble_eq_true rfl) rfl (gg_kr (fun v17 u16 h => ?_))
      obtain ⟨rfl, h⟩ := h
      refine gg_astore_n (L1 := [some (.ref 0), some (.int a1), some (.int a2), some (.ref 15), none, none]) hG dX10_sure_27 rfl (by decide) rfl ?_
      refine gg_aload_n hG dX10_sure_28 rfl rfl ?_
      refine gg_get (v := .int (u16.1 15 10)) hG dX10_sure_29 (by decide) rfl fl_RX10_152 rfl ?_
      refine gg_if_ne (tgt := 41) hG dX10_sure_32 (by decide) (fun c18 => ?_) (fun c18 => ?_)
      · replace h := h.1 c18
        refine gg_aload_n hG dX10_sure_41 rfl rfl ?_
        refine gg_aload_n hG dX10_sure_42 rfl rfl ?_
        refine gg_get (v := .ref 6) hG dX10_sure_43 (by decide) rfl fl_RX10_24 rfl ?_
        refine gg_aload_n hG dX10_sure_46 rfl rfl ?_
        refine gg_get (v := .int (u16.1 15 9)) hG dX10_sure_47 (by decide) rfl fl_RX10_140 rfl ?_
        refine gg_iload_n hG dX10_sure_50 rfl rfl ?_
        refine gg_iconst (v := 0) hG dX10_sure_51 (by decide) ?_
        refine gg_xv (As := [.ref 6, .int (u16.1 15 9), .int a1, .int 0]) (st := []) hG dX10_sure_52 ml_RX10_181 Y_X1_part YV_X1_part (by decide) ⟨_, rfl, rfl⟩ (mt_X1_part h) rfl (by decide) (Nat.le_of_ble_eq_true rfl) rfl (gg_kv (fun u19 h => ?_))
        refine gg_iconst (v := 0) hG dX10_sure_55 (by decide) ?_
        refine gg_istore (L1 := [some (.ref 0), some (.int a1), some (.int a2), some (.ref 15), some (.int 0), none]) hG dX10_sure_56 (by decide) rfl ?_
        refine gg_iconst (v := 0) hG dX10_sure_58 (by decide) ?_
        refine gg_istore (L1 := [some (.ref 0), some (.int a1), some (.int a2), some (.ref 15), some (.int 0), some (.int 0)]) hG dX10_sure_59 (by decide) rfl ?_
        refine gg_mk hG [false, false, true, true, true, true] rfl ?_
        exact m_X10_sure_c61 hG h
      · replace h := h.2 c18
        refine gg_bipush (v := (-3)) hG dX10_sure_35 (by decide) ?_
        refine gg_xs (As := [.int (-3)]) (st := []) hG dX10_sure_37 ml_RX10_148 Y_X10_refusal YS_X10_refusal (mt_X10_refusal h) rfl (by decide) (Nat.le_of_ble_eq_true rfl) rfl (gg_kj (fun v21 u20 h => ?_))
        exact gg_lret hG dX10_sure_40 rfl ⟨_, rfl, h⟩
    · replace h := h.2 c15
      refine gg_mk hG [false, false, false, false, false, false] rfl ?_
      exact m_X10_sure_c17 hG h
theorem mt_X10_sure {a1 : Int32} {a2 : Int32}  {u : gg_M} {Q : Int64 → gg_M → Prop} (h : w_X10_sure a1 a2 u Q) : gg_Mt 6 yX10_sure cX10_sure 6 (some .long) [.ref 0, .int a1, .int a2] u (gg_eJ Q) :=
  gg_intro (own := RX10) (by decide +kernel) rfl rfl (Nat.le_of_ble_eq_true rfl) (fun G hG => m_X10_sure hG  h)
/-! X10_best -/
def w_X10_best_c119 (z0 : Int64) (u : gg_M)  (Q : Int64 → gg_M → Prop) : Prop :=
  Q z0 u
set_option maxRecDepth 10000 in
theorem m_X10_best_c119 {z0 : Int64} {u : gg_M}  {G : gg_T} {Q : Int64 → gg_M → Prop} (hG : gg_Cl none cX10_best 4 RX10 (some .long) 10 (gg_eJ Q) G)  (h : w_X10_best_c119 z0 u  Q)   : G 119 [none, none, none, none] [.long z0] u := by
  unfold w_X10_best_c119 at h
  exact gg_lret hG dX10_best_119 rfl ⟨_, rfl, h⟩
def w_X10_best_c88 (a1 : Int32) (a2 : Int32) (u : gg_M)  (Q : Int64 → gg_M → Prop) : Prop :=
  (¬ a2 = 2 →
   vp_in a1 4 ∧
   w_X10_told ((u.1 27 a1.toNatClampNeg).toInt64) ((u.1 15 10).toInt64) a2 u (fun v4 u3 =>
   w_X10_best_c119 v4 u3 Q)) ∧
  (a2 = 2 →
   vp_in a1 4 ∧
   w_X10_best_c119 ((u.1 26 a1.toNatClampNeg).toInt64) u Q)
set_option maxRecDepth 10000 in
theorem m_X10_best_c88 {a1 : Int32} {a2 : Int32} {u : gg_M}  {G : gg_T} {Q : Int64 → gg_M → Prop} (hG : gg_Cl none cX10_best 4 RX10 (some .long) 10 (gg_eJ Q) G)  (h : w_X10_best_c88 a1 a2 u  Q)   : G 88 [none, some (.int a1), some (.int a2), some (.ref 15)] [] u := by
  unfold w_X10_best_c88 at h
  refine gg_iload_n hG dX10_best_88 rfl rfl ?_
  refine gg_iconst (v := 2) hG dX10_best_89 (by decide) ?_
  refine gg_ic_ne (tgt := 103) hG dX10_best_90 (by decide) (fun c1 => ?_) (fun c1 => ?_)
  · replace h := h.1 c1
    refine gg_aload_n hG dX10_best_103 rfl rfl ?_
    refine gg_get (v := .ref 27) hG dX10_best_104 (by decide) rfl fl_RX10_198 rfl ?_
    refine gg_iload_n hG dX10_best_107 rfl rfl ?_
    obtain ⟨h2, h⟩ := h
    refine gg_iald (j := a1.toNatClampNeg) hG dX10_best_108 (by decide) rfl h2 rfl ?_
    refine gg_i2l hG dX10_best_109 ?_
    refine gg_aload_n hG dX10_best_110 rfl rfl ?_
    refine gg_get (v := .int (u.1 15 10)) hG dX10_best_111 (by decide) rfl fl_RX10_152 rfl ?_
    refine gg_i2l hG dX10_best_114 ?_
    refine gg_iload_n hG dX10_best_115 rfl rfl ?_
    refine gg_xs (As := [.long (u.1 27 a1.toNatClampNeg).toInt64, .long (u.1 15 10).toInt64, .int a2]) (st := []) hG dX10_best_116 ml_RX10_158 Y_X10_told YS_X10_told (mt_X10_told h) rfl (by decide) (Nat.le_of_ble_eq_true rfl) rfl (gg_kj (fun v4 u3 h => ?_))
    refine gg_mk hG [false, false, false, false] rfl ?_
    exact m_X10_best_c119 hG h
  · replace h := h.2 c1
    refine gg_aload_n hG dX10_best_93 rfl rfl ?_
    refine gg_get (v := .ref 26) hG dX10_best_94 (by decide) rfl fl_RX10_195 rfl ?_
    refine gg_iload_n hG dX10_best_97 rfl rfl ?_
    obtain ⟨h5, h⟩ := h
    refine gg_iald (j := a1.toNatClampNeg) hG dX10_best_98 (by decide) rfl h5 rfl ?_
    refine gg_i2l hG dX10_best_99 ?_
    refine gg_goto (tgt := 119) hG dX10_best_100 (by decide) ?_
    refine gg_mk hG [false, false, false, false] rfl ?_
    exact m_X10_best_c119 hG h
def w_X10_best_c18  (u : gg_M)  (Q : Int64 → gg_M → Prop) : Prop :=
  w_X10_refusal (-2) u (fun v7 u6 =>
  Q v7 u6)
set_option maxRecDepth 10000 in
theorem m_X10_best_c18  {u : gg_M}  {G : gg_T} {Q : Int64 → gg_M → Prop} (hG : gg_Cl none cX10_best 4 RX10 (some .long) 10 (gg_eJ Q) G)  (h : w_X10_best_c18  u  Q)   : G 18 [none, none, none, none] [] u := by
  unfold w_X10_best_c18 at h
  refine gg_bipush (v := (-2)) hG dX10_best_18 (by decide) ?_
  refine gg_xs (As := [.int (-2)]) (st := []) hG dX10_best_20 ml_RX10_148 Y_X10_refusal YS_X10_refusal (mt_X10_refusal h) rfl (by decide) (Nat.le_of_ble_eq_true rfl) rfl (gg_kj (fun v7 u6 h => ?_))
  exact gg_lret hG dX10_best_23 rfl ⟨_, rfl, h⟩
def w_X10_best (a1 : Int32) (a2 : Int32) (u : gg_M)  (Q : Int64 → gg_M → Prop) : Prop :=
  (a1 < 1 →
   w_X10_best_c18 u Q) ∧
  (¬ a1 < 1 →
   (3 < a1 →
    w_X10_best_c18 u Q) ∧
   (¬ 3 < a1 →
    w_X10_isBelow a2 3 u (fun v11 u10 =>
    (¬ v11 = 0 →
     w_X10_known u10 (fun v14 u13 =>
     v14 = 15 ∧
     (¬ (u13.1 15 10) = 0 →
      vp_in a1 4 ∧
      (¬ (u13.1 26 a1.toNatClampNeg) = (-1) →
       w_X10_best_c88 a1 a2 u13 Q) ∧
      ((u13.1 26 a1.toNatClampNeg) = (-1) →
       wr_X1_weightRunning 4 (u13.1 15 9) (u13.1 15 10) 0 a1 u13 (fun v19 u18 =>
       vp_in a1 4 ∧
       ∀ u21 : gg_M, u21 = gg_wI u18 27 a1.toNatClampNeg v19 →
       vp_in a1 4 ∧
       ∀ u23 : gg_M, u23 = gg_wI u21 26 a1.toNatClampNeg (u21.1 28 0) →
       w_X10_best_c88 a1 a2 u23 Q))) ∧
     ((u13.1 15 10) = 0 →
      w_X10_refusal (-3) u13 (fun v25 u24 =>
      Q v25 u24)))) ∧
    (v11 = 0 →
     w_X10_best_c18 u10 Q))))
set_option maxRecDepth 10000 in
theorem m_X10_best {a1 : Int32} {a2 : Int32} {u : gg_M}  {G : gg_T} {Q : Int64 → gg_M → Prop} (hG : gg_Cl none cX10_best 4 RX10 (some .long) 10 (gg_eJ Q) G)  (h : w_X10_best a1 a2 u  Q)   : G 0 [some (.ref 0), some (.int a1), some (.int a2), none] [] u := by
  unfold w_X10_best at h
  refine gg_iload_n hG dX10_best_0 rfl rfl ?_
  refine gg_iconst (v := 1) hG dX10_best_1 (by decide) ?_
  refine gg_ic_lt (tgt := 18) hG dX10_best_2 (by decide) (fun c8 => ?_) (fun c8 => ?_)
  · replace h := h.1 c8
    refine gg_mk hG [false, false, false, false] rfl ?_
    exact m_X10_best_c18 hG h
  · replace h := h.2 c8
    refine gg_iload_n hG dX10_best_5 rfl rfl ?_
    refine gg_iconst (v := 3) hG dX10_best_6 (by decide) ?_
    refine gg_ic_gt (tgt := 18) hG dX10_best_7 (by decide) (fun c9 => ?_) (fun c9 => ?_)
    · replace h := h.1 c9
      refine gg_mk hG [false, false, false, false] rfl ?_
      exact m_X10_best_c18 hG h
    · replace h := h.2 c9
      refine gg_iload_n hG dX10_best_10 rfl rfl ?_
      refine gg_iconst (v := 3) hG dX10_best_11 (by decide) ?_
      refine gg_xs (As := [.int a2, .int 3]) (st := []) hG dX10_best_12 ml_RX10_84 Y_X10_isBelow YS_X10_isBelow (mt_X10_isBelow h) rfl (by decide) (Nat.le_of_ble_eq_true rfl) rfl (gg_ki (fun v11 u10 h => ?_))
      refine gg_if_ne (tgt := 24) hG dX10_best_15 (by decide) (fun c12 => ?_) (fun c12 => ?_)
      · replace h := h.1 c12
        refine gg_aload_n hG dX10_best_24 rfl rfl ?_
        refine gg_xv (As := []) (st := []) hG dX10_best_25 ml_RX10_137 Y_X10_known YV_X10_known (by decide) ⟨_, rfl, rfl⟩ (mt_X10_known h) rfl (by decide) (Nat.le_of_ble_eq_true rfl) rfl (gg_kr (fun v14 u13 h => ?_))
        obtain ⟨rfl, h⟩ := h
        refine gg_astore_n (L1 := [some (.ref 0), some (.int a1), some (.int a2), some (.ref 15)]) hG dX10_best_28 rfl (by decide) rfl ?_
        refine gg_aload_n hG dX10_best_29 rfl rfl ?_
        refine gg_get (v := .int (u13.1 15 10)) hG dX10_best_30 (by decide) rfl fl_RX10_152 rfl ?_
        refine gg_if_ne (tgt := 42) hG dX10_best_33 (by decide) (fun c15 => ?_) (fun c15 => ?_)
        · replace h := h.1 c15
          refine gg_aload_n hG dX10_best_42 rfl rfl ?_
          refine gg_get (v := .ref 26) hG dX10_best_43 (by decide) rfl fl_RX10_195 rfl ?_
          refine gg_iload_n hG dX10_best_46 rfl rfl ?_
          obtain ⟨h16, h⟩ := h
          refine gg_iald (j := a1.toNatClampNeg) hG dX10_best_47 (by decide) rfl h16 rfl ?_
          refine gg_iconst (v := (-1)) hG dX10_best_48 (by decide) ?_
          refine gg_ic_ne (tgt := 88) hG dX10_best_49 (by decide) (fun c17 => ?_) (fun c17 => ?_)
          · replace h := h.1 c17
            refine gg_mk hG [false, true, true, true] rfl ?_
            exact m_X10_best_c88 hG h
          · replace h := h.2 c17
            refine gg_aload_n hG dX10_best_52 rfl rfl ?_
            refine gg_get (v := .ref 27) hG dX10_best_53 (by decide) rfl fl_RX10_198 rfl ?_
            refine gg_iload_n hG dX10_best_56 rfl rfl ?_
            refine gg_aload_n hG dX10_best_57 rfl rfl ?_
            refine gg_aload_n hG dX10_best_58 rfl rfl ?_
            refine gg_get (v := .ref 6) hG dX10_best_59 (by decide) rfl fl_RX10_24 rfl ?_
            refine gg_aload_n hG dX10_best_62 rfl rfl ?_
            refine gg_get (v := .int (u13.1 15 9)) hG dX10_best_63 (by decide) rfl fl_RX10_140 rfl ?_
            refine gg_aload_n hG dX10_best_66 rfl rfl ?_
            refine gg_get (v := .int (u13.1 15 10)) hG dX10_best_67 (by decide) rfl fl_RX10_152 rfl ?_
            refine gg_iconst (v := 0) hG dX10_best_70 (by decide) ?_
            refine gg_iload_n hG dX10_best_71 rfl rfl ?_
            refine gg_xvN (As := [.ref 6, .int (u13.1 15 9), .int (u13.1 15 10), .int 0, .int a1]) (st := [.int a1, .ref 27]) hG dX10_best_72 ml_RX10_201 Y_X1_weightRunning YV_X1_weightRunning (by decide) ⟨_, rfl, rfl⟩ (mt_X1_weightRunning h) rfl (by decide) (Nat.le_of_ble_eq_true rfl) rfl (gg_ki (fun v19 u18 h => ?_))
            obtain ⟨h20, h⟩ := h
            refine gg_iast (j := a1.toNatClampNeg) hG dX10_best_75 (by decide) rfl h20 rfl ?_
            refine gg_nu (fun u21 eu21 => ?_)
            replace h := h u21 eu21
            refine gg_aload_n hG dX10_best_76 rfl rfl ?_
            refine gg_get (v := .ref 26) hG dX10_best_77 (by decide) rfl fl_RX10_195 rfl ?_
            refine gg_iload_n hG dX10_best_80 rfl rfl ?_
            refine gg_aload_n hG dX10_best_81 rfl rfl ?_
            refine gg_get (v := .ref 28) hG dX10_best_82 (by decide) rfl fl_RX10_205 rfl ?_
            refine gg_iconst (v := 0) hG dX10_best_85 (by decide) ?_
            refine gg_iald (j := 0) hG dX10_best_86 (by decide) rfl (gg_vin (by decide +kernel)) (by decide) ?_
            obtain ⟨h22, h⟩ := h
            refine gg_iast (j := a1.toNatClampNeg) hG dX10_best_87 (by decide) rfl h22 rfl ?_
            refine gg_nu (fun u23 eu23 => ?_)
            replace h := h u23 eu23
            refine gg_mk hG [false, true, true, true] rfl ?_
            exact m_X10_best_c88 hG h
        · replace h := h.2 c15
          refine gg_bipush (v := (-3)) hG dX10_best_36 (by decide) ?_
          refine gg_xs (As := [.int (-3)]) (st := []) hG dX10_best_38 ml_RX10_148 Y_X10_refusal YS_X10_refusal (mt_X10_refusal h) rfl (by decide) (Nat.le_of_ble_eq_true rfl) rfl (gg_kj (fun v25 u24 h => ?_))
          exact gg_lret hG dX10_best_41 rfl ⟨_, rfl, h⟩
      · replace h := h.2 c12
        refine gg_mk hG [false, false, false, false] rfl ?_
        exact m_X10_best_c18 hG h
theorem mt_X10_best {a1 : Int32} {a2 : Int32}  {u : gg_M} {Q : Int64 → gg_M → Prop} (h : w_X10_best a1 a2 u Q) : gg_Mt 10 yX10_best cX10_best 4 (some .long) [.ref 0, .int a1, .int a2] u (gg_eJ Q) :=
  gg_intro (own := RX10) (by decide +kernel) rfl rfl (Nat.le_of_ble_eq_true rfl) (fun G hG => m_X10_best hG  h)
/-! X10_tried -/
def w_X10_tried_c29  (u : gg_M)  (Q : Nat → gg_M → Prop) : Prop :=
  Q 31 u
set_option maxRecDepth 10000 in
theorem m_X10_tried_c29  {u : gg_M}  {G : gg_T} {Q : Nat → gg_M → Prop} (hG : gg_Cl none cX10_tried 1 RX10 (some (.object "ColdMotor$Trial")) 5 (gg_eR Q) G)  (h : w_X10_tried_c29  u  Q)   : G 29 [some (.ref 0)] [] u := by
  unfold w_X10_tried_c29 at h
  refine gg_aload_n hG dX10_tried_29 rfl rfl ?_
  refine gg_get (v := .ref 31) hG dX10_tried_30 (by decide) rfl fl_RX10_59 rfl ?_
  exact gg_aret hG dX10_tried_33 rfl ⟨_, rfl, h⟩
def w_X10_tried  (u : gg_M)  (Q : Nat → gg_M → Prop) : Prop :=
  (¬ (u.1 31 1) = 0 →
   w_X10_tried_c29 u Q) ∧
  ((u.1 31 1) = 0 →
   w_X9_learn 30 u (fun u2 =>
   w_X10_tried_c29 u2 Q))
set_option maxRecDepth 10000 in
theorem m_X10_tried  {u : gg_M}  {G : gg_T} {Q : Nat → gg_M → Prop} (hG : gg_Cl none cX10_tried 1 RX10 (some (.object "ColdMotor$Trial")) 5 (gg_eR Q) G)  (h : w_X10_tried  u  Q)   : G 0 [some (.ref 0)] [] u := by
  unfold w_X10_tried at h
  refine gg_aload_n hG dX10_tried_0 rfl rfl ?_
  refine gg_get (v := .ref 31) hG dX10_tried_1 (by decide) rfl fl_RX10_59 rfl ?_
  refine gg_get (v := .int (u.1 31 1)) hG dX10_tried_4 (by decide) rfl fl_RX10_356 rfl ?_
  refine gg_if_ne (tgt := 29) hG dX10_tried_7 (by decide) (fun c1 => ?_) (fun c1 => ?_)
  · replace h := h.1 c1
    exact m_X10_tried_c29 hG h
  · replace h := h.2 c1
    refine gg_aload_n hG dX10_tried_10 rfl rfl ?_
    refine gg_get (v := .ref 31) hG dX10_tried_11 (by decide) rfl fl_RX10_59 rfl ?_
    refine gg_aload_n hG dX10_tried_14 rfl rfl ?_
    refine gg_get (v := .ref 6) hG dX10_tried_15 (by decide) rfl fl_RX10_24 rfl ?_
    refine gg_aload_n hG dX10_tried_18 rfl rfl ?_
    refine gg_get (v := .ref 8) hG dX10_tried_19 (by decide) rfl fl_RX10_31 rfl ?_
    refine gg_aload_n hG dX10_tried_22 rfl rfl ?_
    refine gg_get (v := .ref 30) hG dX10_tried_23 (by decide) rfl fl_RX10_66 rfl ?_
    refine gg_xv (As := [.ref 6, .ref 8, .ref 30]) (st := []) hG dX10_tried_26 ml_RX10_360 Y_X9_learn YV_X9_learn (by decide) ⟨_, rfl, rfl⟩ (mt_X9_learn rfl h) rfl (by decide) (Nat.le_of_ble_eq_true rfl) rfl (gg_kv (fun u2 h => ?_))
    exact m_X10_tried_c29 hG h
theorem mt_X10_tried   {u : gg_M} {Q : Nat → gg_M → Prop} (h : w_X10_tried  u Q) : gg_Mt 5 yX10_tried cX10_tried 1 (some (.object "ColdMotor$Trial")) [.ref 0] u (gg_eR Q) :=
  gg_intro (own := RX10) (by decide +kernel) rfl rfl (Nat.le_of_ble_eq_true rfl) (fun G hG => m_X10_tried hG  h)
/-! X10_habit -/
def w_X10_habit_c68 (a2 : Int32) (z0 : Int64) (u : gg_M)  (Q : Int64 → gg_M → Prop) : Prop :=
  w_X10_told z0 1048576 a2 u (fun v2 u1 =>
  Q v2 u1)
set_option maxRecDepth 10000 in
theorem m_X10_habit_c68 {a2 : Int32} {z0 : Int64} {u : gg_M}  {G : gg_T} {Q : Int64 → gg_M → Prop} (hG : gg_Cl none cX10_habit 4 RX10 (some .long) 6 (gg_eJ Q) G)  (h : w_X10_habit_c68 a2 z0 u  Q)   : G 68 [none, none, some (.int a2), none] [.long z0] u := by
  unfold w_X10_habit_c68 at h
  refine gg_ldc2 hG dX10_habit_68 fc_RX10_220 ?_
  refine gg_iload_n hG dX10_habit_71 rfl rfl ?_
  refine gg_xs (As := [.long z0, .long 1048576, .int a2]) (st := []) hG dX10_habit_72 ml_RX10_158 Y_X10_told YS_X10_told (mt_X10_told h) rfl (by decide) (Nat.le_of_ble_eq_true rfl) rfl (gg_kj (fun v2 u1 h => ?_))
  exact gg_lret hG dX10_habit_75 rfl ⟨_, rfl, h⟩
def w_X10_habit_c16  (u : gg_M)  (Q : Int64 → gg_M → Prop) : Prop :=
  w_X10_refusal (-2) u (fun v4 u3 =>
  Q v4 u3)
set_option maxRecDepth 10000 in
theorem m_X10_habit_c16  {u : gg_M}  {G : gg_T} {Q : Int64 → gg_M → Prop} (hG : gg_Cl none cX10_habit 4 RX10 (some .long) 6 (gg_eJ Q) G)  (h : w_X10_habit_c16  u  Q)   : G 16 [none, none, none, none] [] u := by
  unfold w_X10_habit_c16 at h
  refine gg_bipush (v := (-2)) hG dX10_habit_16 (by decide) ?_
  refine gg_xs (As := [.int (-2)]) (st := []) hG dX10_habit_18 ml_RX10_148 Y_X10_refusal YS_X10_refusal (mt_X10_refusal h) rfl (by decide) (Nat.le_of_ble_eq_true rfl) rfl (gg_kj (fun v4 u3 h => ?_))
  exact gg_lret hG dX10_habit_21 rfl ⟨_, rfl, h⟩
def w_X10_habit (a1 : Int32) (a2 : Int32) (u : gg_M)  (Q : Int64 → gg_M → Prop) : Prop :=
  w_X10_isBelow a1 2 u (fun v6 u5 =>
  (v6 = 0 →
   w_X10_habit_c16 u5 Q) ∧
  (¬ v6 = 0 →
   w_X10_isBelow a2 2 u5 (fun v9 u8 =>
   (¬ v9 = 0 →
    ((u8.1 8 2) = (-1) →
     w_X10_tried u8 (fun v13 u12 =>
     v13 = 31 ∧
     (¬ a1 = 0 →
      w_X9_actsDone u12 (fun v16 u15 =>
      w_X10_habit_c68 a2 v16 u15 Q)) ∧
     (a1 = 0 →
      w_X9_weightHaving (-1) u12 (fun v18 u17 =>
      w_X10_habit_c68 a2 v18 u17 Q)))) ∧
    (¬ (u8.1 8 2) = (-1) →
     w_X10_refusal (-3) u8 (fun v20 u19 =>
     Q v20 u19))) ∧
   (v9 = 0 →
    w_X10_habit_c16 u8 Q))))
set_option maxRecDepth 10000 in
theorem m_X10_habit {a1 : Int32} {a2 : Int32} {u : gg_M}  {G : gg_T} {Q : Int64 → gg_M → Prop} (hG : gg_Cl none cX10_habit 4 RX10 (some .long) 6 (gg_eJ Q) G)  (h : w_X10_habit a1 a2 u  Q)   : G 0 [some (.ref 0), some (.int a1), some (.int a2), none] [] u := by
  unfold w_X10_habit at h
  refine gg_iload_n hG dX10_habit_0 rfl rfl ?_
  refine gg_iconst (v := 2) hG dX10_habit_1 (by decide) ?_
  refine gg_xs (As := [.int a1, .int 2]) (st := []) hG dX10_habit_2 ml_RX10_84 Y_X10_isBelow YS_X10_isBelow (mt_X10_isBelow h) rfl (by decide) (Nat.le_of_ble_eq_true rfl) rfl (gg_ki (fun v6 u5 h => ?_))
  refine gg_if_eq (tgt := 16) hG dX10_habit_5 (by decide) (fun c7 => ?_) (fun c7 => ?_)
  · replace h := h.1 c7
    refine gg_mk hG [false, false, false, false] rfl ?_
    exact m_X10_habit_c16 hG h
  · replace h := h.2 c7
    refine gg_iload_n hG dX10_habit_8 rfl rfl ?_
    refine gg_iconst (v := 2) hG dX10_habit_9 (by decide) ?_
    refine gg_xs (As := [.int a2, .int 2]) (st := []) hG dX10_habit_10 ml_RX10_84 Y_X10_isBelow YS_X10_isBelow (mt_X10_isBelow h) rfl (by decide) (Nat.le_of_ble_eq_true rfl) rfl (gg_ki (fun v9 u8 h => ?_))
    refine gg_if_ne (tgt := 22) hG dX10_habit_13 (by decide) (fun c10 => ?_) (fun c10 => ?_)
    · replace h := h.1 c10
      refine gg_aload_n hG dX10_habit_22 rfl rfl ?_
      refine gg_get (v := .ref 8) hG dX10_habit_23 (by decide) rfl fl_RX10_31 rfl ?_
      refine gg_get (v := .int (u8.1 8 2)) hG dX10_habit_26 (by decide) rfl fl_RX10_106 rfl ?_
      refine gg_iconst (v := (-1)) hG dX10_habit_29 (by decide) ?_
      refine gg_ic_eq (tgt := 39) hG dX10_habit_30 (by decide) (fun c11 => ?_) (fun c11 => ?_)
      · replace h := h.1 c11
        refine gg_aload_n hG dX10_habit_39 rfl rfl ?_
        refine gg_xv (As := []) (st := []) hG dX10_habit_40 ml_RX10_208 Y_X10_tried YV_X10_tried (by decide) ⟨_, rfl, rfl⟩ (mt_X10_tried h) rfl (by decide) (Nat.le_of_ble_eq_true rfl) rfl (gg_kr (fun v13 u12 h => ?_))
        obtain ⟨rfl, h⟩ := h
        refine gg_astore_n (L1 := [some (.ref 0), some (.int a1), some (.int a2), some (.ref 31)]) hG dX10_habit_43 rfl (by decide) rfl ?_
        refine gg_iload_n hG dX10_habit_44 rfl rfl ?_
        refine gg_if_ne (tgt := 60) hG dX10_habit_45 (by decide) (fun c14 => ?_) (fun c14 => ?_)
        · replace h := h.1 c14
          refine gg_aload_n hG dX10_habit_60 rfl rfl ?_
          refine gg_aload_n hG dX10_habit_61 rfl rfl ?_
          refine gg_get (v := .ref 10) hG dX10_habit_62 (by decide) rfl fl_RX10_38 rfl ?_
          refine gg_xv (As := [.ref 10]) (st := []) hG dX10_habit_65 ml_RX10_216 Y_X9_actsDone YV_X9_actsDone (by decide) ⟨_, rfl, rfl⟩ (mt_X9_actsDone h) rfl (by decide) (Nat.le_of_ble_eq_true rfl) rfl (gg_kj (fun v16 u15 h => ?_))
          refine gg_mk hG [false, false, true, false] rfl ?_
          exact m_X10_habit_c68 hG h
        · replace h := h.2 c14
          refine gg_aload_n hG dX10_habit_48 rfl rfl ?_
          refine gg_aload_n hG dX10_habit_49 rfl rfl ?_
          refine gg_get (v := .ref 10) hG dX10_habit_50 (by decide) rfl fl_RX10_38 rfl ?_
          refine gg_iconst (v := (-1)) hG dX10_habit_53 (by decide) ?_
          refine gg_xv (As := [.ref 10, .int (-1)]) (st := []) hG dX10_habit_54 ml_RX10_212 Y_X9_weightHaving YV_X9_weightHaving (by decide) ⟨_, rfl, rfl⟩ (mt_X9_weightHaving h) rfl (by decide) (Nat.le_of_ble_eq_true rfl) rfl (gg_kj (fun v18 u17 h => ?_))
          refine gg_goto (tgt := 68) hG dX10_habit_57 (by decide) ?_
          refine gg_mk hG [false, false, true, false] rfl ?_
          exact m_X10_habit_c68 hG h
      · replace h := h.2 c11
        refine gg_bipush (v := (-3)) hG dX10_habit_33 (by decide) ?_
        refine gg_xs (As := [.int (-3)]) (st := []) hG dX10_habit_35 ml_RX10_148 Y_X10_refusal YS_X10_refusal (mt_X10_refusal h) rfl (by decide) (Nat.le_of_ble_eq_true rfl) rfl (gg_kj (fun v20 u19 h => ?_))
        exact gg_lret hG dX10_habit_38 rfl ⟨_, rfl, h⟩
    · replace h := h.2 c10
      refine gg_mk hG [false, false, false, false] rfl ?_
      exact m_X10_habit_c16 hG h
theorem mt_X10_habit {a1 : Int32} {a2 : Int32}  {u : gg_M} {Q : Int64 → gg_M → Prop} (h : w_X10_habit a1 a2 u Q) : gg_Mt 6 yX10_habit cX10_habit 4 (some .long) [.ref 0, .int a1, .int a2] u (gg_eJ Q) :=
  gg_intro (own := RX10) (by decide +kernel) rfl rfl (Nat.le_of_ble_eq_true rfl) (fun G hG => m_X10_habit hG  h)
/-! X10_has -/
def w_X10_has_c56 (z0 : Int32) (u : gg_M)  (Q : Int32 → gg_M → Prop) : Prop :=
  Q z0 u
set_option maxRecDepth 10000 in
theorem m_X10_has_c56 {z0 : Int32} {u : gg_M}  {G : gg_T} {Q : Int32 → gg_M → Prop} (hG : gg_Cl none cX10_has 3 RX10 (some .int) 6 (gg_eI Q) G)  (h : w_X10_has_c56 z0 u  Q)   : G 56 [none, none, none] [.int z0] u := by
  unfold w_X10_has_c56 at h
  exact gg_iret hG dX10_has_56 rfl rfl ⟨_, rfl, h⟩
def w_X10_has_c17 (a1 : Int32) (u : gg_M)  (Q : Int32 → gg_M → Prop) : Prop :=
  ((u.1 8 2) = (-1) →
   w_X10_tried u (fun v3 u2 =>
   v3 = 31 ∧
   ∀ v4 : Int32, v4 = (u2.1 31 2) →
   (¬ a1 = (-1) →
    w_X10_has_c56 ((gu_ushr v4 a1) &&& 1) u2 Q) ∧
   (a1 = (-1) →
    w_J6_bitCount_0f7a4 v4 u2 (fun v7 u6 =>
    w_X10_has_c56 v7 u6 Q)))) ∧
  (¬ (u.1 8 2) = (-1) →
   Q (-3) u)
set_option maxRecDepth 10000 in
theorem m_X10_has_c17 {a1 : Int32} {u : gg_M}  {G : gg_T} {Q : Int32 → gg_M → Prop} (hG : gg_Cl none cX10_has 3 RX10 (some .int) 6 (gg_eI Q) G)  (h : w_X10_has_c17 a1 u  Q)   : G 17 [some (.ref 0), some (.int a1), none] [] u := by
  unfold w_X10_has_c17 at h
  refine gg_aload_n hG dX10_has_17 rfl rfl ?_
  refine gg_get (v := .ref 8) hG dX10_has_18 (by decide) rfl fl_RX10_31 rfl ?_
  refine gg_get (v := .int (u.1 8 2)) hG dX10_has_21 (by decide) rfl fl_RX10_106 rfl ?_
  refine gg_iconst (v := (-1)) hG dX10_has_24 (by decide) ?_
  refine gg_ic_eq (tgt := 31) hG dX10_has_25 (by decide) (fun c1 => ?_) (fun c1 => ?_)
  · replace h := h.1 c1
    refine gg_aload_n hG dX10_has_31 rfl rfl ?_
    refine gg_xv (As := []) (st := []) hG dX10_has_32 ml_RX10_208 Y_X10_tried YV_X10_tried (by decide) ⟨_, rfl, rfl⟩ (mt_X10_tried h) rfl (by decide) (Nat.le_of_ble_eq_true rfl) rfl (gg_kr (fun v3 u2 h => ?_))
    obtain ⟨rfl, h⟩ := h
    refine gg_get (v := .int (u2.1 31 2)) hG dX10_has_35 (by decide) rfl fl_RX10_222 rfl ?_
    refine gg_ni (fun v4 e4 => ?_)
    replace h := h v4 e4
    refine gg_istore_n (L1 := [some (.ref 0), some (.int a1), some (.int v4)]) hG dX10_has_38 rfl (by decide) rfl ?_
    refine gg_iload_n hG dX10_has_39 rfl rfl ?_
    refine gg_iconst (v := (-1)) hG dX10_has_40 (by decide) ?_
    refine gg_ic_ne (tgt := 51) hG dX10_has_41 (by decide) (fun c5 => ?_) (fun c5 => ?_)
    · replace h := h.1 c5
      refine gg_iload_n hG dX10_has_51 rfl rfl ?_
      refine gg_iload_n hG dX10_has_52 rfl rfl ?_
      refine gg_iushr hG dX10_has_53 ?_
      refine gg_iconst (v := 1) hG dX10_has_54 (by decide) ?_
      refine gg_iand hG dX10_has_55 ?_
      refine gg_mk hG [false, false, false] rfl ?_
      exact m_X10_has_c56 hG h
    · replace h := h.2 c5
      refine gg_iload_n hG dX10_has_44 rfl rfl ?_
      refine gg_xs (As := [.int v4]) (st := []) hG dX10_has_45 ml_RX10_143 Y_J6_bitCount_0f7a4 YS_J6_bitCount_0f7a4 (mt_J6_bitCount_0f7a4 h) rfl (by decide) (Nat.le_of_ble_eq_true rfl) rfl (gg_ki (fun v7 u6 h => ?_))
      refine gg_goto (tgt := 56) hG dX10_has_48 (by decide) ?_
      refine gg_mk hG [false, false, false] rfl ?_
      exact m_X10_has_c56 hG h
  · replace h := h.2 c1
    refine gg_bipush (v := (-3)) hG dX10_has_28 (by decide) ?_
    exact gg_iret hG dX10_has_30 rfl rfl ⟨_, rfl, h⟩
def w_X10_has (a1 : Int32) (u : gg_M)  (Q : Int32 → gg_M → Prop) : Prop :=
  (a1 = (-1) →
   w_X10_has_c17 a1 u Q) ∧
  (¬ a1 = (-1) →
   w_X10_isBelow a1 32 u (fun v10 u9 =>
   (¬ v10 = 0 →
    w_X10_has_c17 a1 u9 Q) ∧
   (v10 = 0 →
    Q (-2) u9)))
set_option maxRecDepth 10000 in
theorem m_X10_has {a1 : Int32} {u : gg_M}  {G : gg_T} {Q : Int32 → gg_M → Prop} (hG : gg_Cl none cX10_has 3 RX10 (some .int) 6 (gg_eI Q) G)  (h : w_X10_has a1 u  Q)   : G 0 [some (.ref 0), some (.int a1), none] [] u := by
  unfold w_X10_has at h
  refine gg_iload_n hG dX10_has_0 rfl rfl ?_
  refine gg_iconst (v := (-1)) hG dX10_has_1 (by decide) ?_
  refine gg_ic_eq (tgt := 17) hG dX10_has_2 (by decide) (fun c8 => ?_) (fun c8 => ?_)
  · replace h := h.1 c8
    exact m_X10_has_c17 hG h
  · replace h := h.2 c8
    refine gg_iload_n hG dX10_has_5 rfl rfl ?_
    refine gg_bipush (v := 32) hG dX10_has_6 (by decide) ?_
    refine gg_xs (As := [.int a1, .int 32]) (st := []) hG dX10_has_8 ml_RX10_84 Y_X10_isBelow YS_X10_isBelow (mt_X10_isBelow h) rfl (by decide) (Nat.le_of_ble_eq_true rfl) rfl (gg_ki (fun v10 u9 h => ?_))
    refine gg_if_ne (tgt := 17) hG dX10_has_11 (by decide) (fun c11 => ?_) (fun c11 => ?_)
    · replace h := h.1 c11
      exact m_X10_has_c17 hG h
    · replace h := h.2 c11
      refine gg_bipush (v := (-2)) hG dX10_has_14 (by decide) ?_
      exact gg_iret hG dX10_has_16 rfl rfl ⟨_, rfl, h⟩
theorem mt_X10_has {a1 : Int32}  {u : gg_M} {Q : Int32 → gg_M → Prop} (h : w_X10_has a1 u Q) : gg_Mt 6 yX10_has cX10_has 3 (some .int) [.ref 0, .int a1] u (gg_eI Q) :=
  gg_intro (own := RX10) (by decide +kernel) rfl rfl (Nat.le_of_ble_eq_true rfl) (fun G hG => m_X10_has hG  h)
/-! X10_work -/
def w_X10_work_c104 (z0 : Int64) (u : gg_M)  (Q : Int64 → gg_M → Prop) : Prop :=
  Q z0 u
set_option maxRecDepth 10000 in
theorem m_X10_work_c104 {z0 : Int64} {u : gg_M}  {G : gg_T} {Q : Int64 → gg_M → Prop} (hG : gg_Cl none cX10_work 9 RX10 (some .long) 6 (gg_eJ Q) G)  (h : w_X10_work_c104 z0 u  Q)   : G 104 [none, none, none, none, none, none, none, none, none] [.long z0] u := by
  unfold w_X10_work_c104 at h
  exact gg_lret hG dX10_work_104 rfl ⟨_, rfl, h⟩
def w_X10_work_c79 (a1 : Int32) (a3 : Int32) (a4 : Int64) (a6 : Int32) (u : gg_M) (k46 : Int32 × Int64 × Int32 × gg_M → Prop) (Q : Int64 → gg_M → Prop) : Prop :=
  k46 (a3, a4, (a6 + 1), u)
set_option maxRecDepth 10000 in
theorem m_X10_work_c79 {a1 : Int32} {a3 : Int32} {a4 : Int64} {a6 : Int32} {u : gg_M} {k46 : Int32 × Int64 × Int32 × gg_M → Prop} {G : gg_T} {Q : Int64 → gg_M → Prop} (hG : gg_Cl none cX10_work 9 RX10 (some .long) 6 (gg_eJ Q) G)  (h : w_X10_work_c79 a1 a3 a4 a6 u k46 Q)  (hk46 : ∀ s : Int32 × Int64 × Int32 × gg_M, k46 s → G 46 [some (.ref 0), some (.int a1), some (.ref 31), some (.int s.1), some (.long s.2.1), none, some (.int s.2.2.1), none, none] [] s.2.2.2) : G 79 [some (.ref 0), some (.int a1), some (.ref 31), some (.int a3), some (.long a4), none, some (.int a6), none, none] [] u := by
  unfold w_X10_work_c79 at h
  refine gg_iinc (v := (a6 + 1)) (L1 := [some (.ref 0), some (.int a1), some (.ref 31), some (.int a3), some (.long a4), none, some (.int (a6 + 1)), none, none]) hG dX10_work_79 rfl rfl (by decide) rfl ?_
  refine gg_goto (tgt := 46) hG dX10_work_82 (by decide) ?_
  exact hk46 _ h
def b_X10_work_c46 (a1 : Int32) (a3 : Int32) (a4 : Int64) (a6 : Int32) (u : gg_M)  (k46 : Int32 × Int64 × Int32 × gg_M → Prop) (Q : Int64 → gg_M → Prop) : Prop :=
  (5 ≤ a6 →
   (¬ a1 = 2 →
    w_X10_told a4 1048576 a1 u (fun v4 u3 =>
    w_X10_work_c104 v4 u3 Q)) ∧
   (a1 = 2 →
    w_X10_work_c104 a3.toInt64 u Q)) ∧
  (¬ 5 ≤ a6 →
   w_X9_weightHaving a6 u (fun v6 u5 =>
   ((lg_cmp v6 a4) ≤ 0 →
    w_X10_work_c79 a1 a3 a4 a6 u5 k46 Q) ∧
   (¬ (lg_cmp v6 a4) ≤ 0 →
    w_X10_work_c79 a1 a6 v6 a6 u5 k46 Q)))
set_option maxRecDepth 10000 in
theorem mb_X10_work_c46 {a1 : Int32} {a3 : Int32} {a4 : Int64} {a6 : Int32} {u : gg_M}  {k46 : Int32 × Int64 × Int32 × gg_M → Prop} {G : gg_T} {Q : Int64 → gg_M → Prop} (hG : gg_Cl none cX10_work 9 RX10 (some .long) 6 (gg_eJ Q) G)  (h : b_X10_work_c46 a1 a3 a4 a6 u k46 Q)   (hk46 : ∀ s : Int32 × Int64 × Int32 × gg_M, k46 s → G 46 [some (.ref 0), some (.int a1), some (.ref 31), some (.int s.1), some (.long s.2.1), none, some (.int s.2.2.1), none, none] [] s.2.2.2) : G 46 [some (.ref 0), some (.int a1), some (.ref 31), some (.int a3), some (.long a4), none, some (.int a6), none, none] [] u := by
  unfold b_X10_work_c46 at h
  refine gg_iload hG dX10_work_46 rfl ?_
  refine gg_iconst (v := 5) hG dX10_work_48 (by decide) ?_
  refine gg_ic_ge (tgt := 85) hG dX10_work_49 (by decide) (fun c1 => ?_) (fun c1 => ?_)
  · replace h := h.1 c1
    refine gg_iload_n hG dX10_work_85 rfl rfl ?_
    refine gg_iconst (v := 2) hG dX10_work_86 (by decide) ?_
    refine gg_ic_ne (tgt := 95) hG dX10_work_87 (by decide) (fun c2 => ?_) (fun c2 => ?_)
    · replace h := h.1 c2
      refine gg_lload hG dX10_work_95 rfl ?_
      refine gg_ldc2 hG dX10_work_97 fc_RX10_220 ?_
      refine gg_iload_n hG dX10_work_100 rfl rfl ?_
      refine gg_xs (As := [.long a4, .long 1048576, .int a1]) (st := []) hG dX10_work_101 ml_RX10_158 Y_X10_told YS_X10_told (mt_X10_told h) rfl (by decide) (Nat.le_of_ble_eq_true rfl) rfl (gg_kj (fun v4 u3 h => ?_))
      refine gg_mk hG [false, false, false, false, false, false, false, false, false] rfl ?_
      exact m_X10_work_c104 hG h
    · replace h := h.2 c2
      refine gg_iload_n hG dX10_work_90 rfl rfl ?_
      refine gg_i2l hG dX10_work_91 ?_
      refine gg_goto (tgt := 104) hG dX10_work_92 (by decide) ?_
      refine gg_mk hG [false, false, false, false, false, false, false, false, false] rfl ?_
      exact m_X10_work_c104 hG h
  · replace h := h.2 c1
    refine gg_aload_n hG dX10_work_52 rfl rfl ?_
    refine gg_aload_n hG dX10_work_53 rfl rfl ?_
    refine gg_get (v := .ref 10) hG dX10_work_54 (by decide) rfl fl_RX10_38 rfl ?_
    refine gg_iload hG dX10_work_57 rfl ?_
    refine gg_xv (As := [.ref 10, .int a6]) (st := []) hG dX10_work_59 ml_RX10_212 Y_X9_weightHaving YV_X9_weightHaving (by decide) ⟨_, rfl, rfl⟩ (mt_X9_weightHaving h) rfl (by decide) (Nat.le_of_ble_eq_true rfl) rfl (gg_kj (fun v6 u5 h => ?_))
    refine gg_lstore (L1 := [some (.ref 0), some (.int a1), some (.ref 31), some (.int a3), some (.long a4), none, some (.int a6), some (.long v6), none]) hG dX10_work_62 (by decide) rfl ?_
    refine gg_lload hG dX10_work_64 rfl ?_
    refine gg_lload hG dX10_work_66 rfl ?_
    refine gg_lcmp hG dX10_work_68 ?_
    refine gg_if_le (tgt := 79) hG dX10_work_69 (by decide) (fun c7 => ?_) (fun c7 => ?_)
    · replace h := h.1 c7
      refine gg_mk hG [true, true, true, true, true, false, true, false, false] rfl ?_
      exact m_X10_work_c79 hG h hk46
    · replace h := h.2 c7
      refine gg_lload hG dX10_work_72 rfl ?_
      refine gg_lstore (L1 := [some (.ref 0), some (.int a1), some (.ref 31), some (.int a3), some (.long v6), none, some (.int a6), some (.long v6), none]) hG dX10_work_74 (by decide) rfl ?_
      refine gg_iload hG dX10_work_76 rfl ?_
      refine gg_istore_n (L1 := [some (.ref 0), some (.int a1), some (.ref 31), some (.int a6), some (.long v6), none, some (.int a6), some (.long v6), none]) hG dX10_work_78 rfl (by decide) rfl ?_
      refine gg_mk hG [true, true, true, true, true, false, true, false, false] rfl ?_
      exact m_X10_work_c79 hG h hk46
def w_X10_work_c46 (a1 : Int32) (a3 : Int32) (a4 : Int64) (a6 : Int32) (u : gg_M)  (Q : Int64 → gg_M → Prop) : Prop :=
  gg_loop (fun (s : Int32 × Int64 × Int32 × gg_M) k46 => b_X10_work_c46 a1 s.1 s.2.1 s.2.2.1 s.2.2.2  k46 Q) (a3, a4, a6, u)
set_option maxRecDepth 10000 in
theorem m_X10_work_c46 {a1 : Int32} {a3 : Int32} {a4 : Int64} {a6 : Int32} {u : gg_M}  {G : gg_T} {Q : Int64 → gg_M → Prop} (hG : gg_Cl none cX10_work 9 RX10 (some .long) 6 (gg_eJ Q) G)  (h : w_X10_work_c46 a1 a3 a4 a6 u  Q)   : G 46 [some (.ref 0), some (.int a1), some (.ref 31), some (.int a3), some (.long a4), none, some (.int a6), none, none] [] u :=
  gg_loop_use (P := fun s : Int32 × Int64 × Int32 × gg_M => G 46 [some (.ref 0), some (.int a1), some (.ref 31), some (.int s.1), some (.long s.2.1), none, some (.int s.2.2.1), none, none] [] s.2.2.2) h (fun s rc hb hr => mb_X10_work_c46 hG  hb   hr)
def w_X10_work (a1 : Int32) (u : gg_M)  (Q : Int64 → gg_M → Prop) : Prop :=
  w_X10_isBelow a1 3 u (fun v9 u8 =>
  (¬ v9 = 0 →
   ((u8.1 8 2) = (-1) →
    w_X10_tried u8 (fun v13 u12 =>
    v13 = 31 ∧
    w_X10_work_c46 a1 0 (-1) 0 u12 Q)) ∧
   (¬ (u8.1 8 2) = (-1) →
    w_X10_refusal (-3) u8 (fun v15 u14 =>
    Q v15 u14))) ∧
  (v9 = 0 →
   w_X10_refusal (-2) u8 (fun v17 u16 =>
   Q v17 u16)))
set_option maxRecDepth 10000 in
theorem m_X10_work {a1 : Int32} {u : gg_M}  {G : gg_T} {Q : Int64 → gg_M → Prop} (hG : gg_Cl none cX10_work 9 RX10 (some .long) 6 (gg_eJ Q) G)  (h : w_X10_work a1 u  Q)   : G 0 [some (.ref 0), some (.int a1), none, none, none, none, none, none, none] [] u := by
  unfold w_X10_work at h
  refine gg_iload_n hG dX10_work_0 rfl rfl ?_
  refine gg_iconst (v := 3) hG dX10_work_1 (by decide) ?_
  refine gg_xs (As := [.int a1, .int 3]) (st := []) hG dX10_work_2 ml_RX10_84 Y_X10_isBelow YS_X10_isBelow (mt_X10_isBelow h) rfl (by decide) (Nat.le_of_ble_eq_true rfl) rfl (gg_ki (fun v9 u8 h => ?_))
  refine gg_if_ne (tgt := 14) hG dX10_work_5 (by decide) (fun c10 => ?_) (fun c10 => ?_)
  · replace h := h.1 c10
    refine gg_aload_n hG dX10_work_14 rfl rfl ?_
    refine gg_get (v := .ref 8) hG dX10_work_15 (by decide) rfl fl_RX10_31 rfl ?_
    refine gg_get (v := .int (u8.1 8 2)) hG dX10_work_18 (by decide) rfl fl_RX10_106 rfl ?_
    refine gg_iconst (v := (-1)) hG dX10_work_21 (by decide) ?_
    refine gg_ic_eq (tgt := 31) hG dX10_work_22 (by decide) (fun c11 => ?_) (fun c11 => ?_)
    · replace h := h.1 c11
      refine gg_aload_n hG dX10_work_31 rfl rfl ?_
      refine gg_xv (As := []) (st := []) hG dX10_work_32 ml_RX10_208 Y_X10_tried YV_X10_tried (by decide) ⟨_, rfl, rfl⟩ (mt_X10_tried h) rfl (by decide) (Nat.le_of_ble_eq_true rfl) rfl (gg_kr (fun v13 u12 h => ?_))
      obtain ⟨rfl, h⟩ := h
      refine gg_astore_n (L1 := [some (.ref 0), some (.int a1), some (.ref 31), none, none, none, none, none, none]) hG dX10_work_35 rfl (by decide) rfl ?_
      refine gg_iconst (v := 0) hG dX10_work_36 (by decide) ?_
      refine gg_istore_n (L1 := [some (.ref 0), some (.int a1), some (.ref 31), some (.int 0), none, none, none, none, none]) hG dX10_work_37 rfl (by decide) rfl ?_
      refine gg_ldc2 hG dX10_work_38 fc_RX10_225 ?_
      refine gg_lstore (L1 := [some (.ref 0), some (.int a1), some (.ref 31), some (.int 0), some (.long (-1)), none, none, none, none]) hG dX10_work_41 (by decide) rfl ?_
      refine gg_iconst (v := 0) hG dX10_work_43 (by decide) ?_
      refine gg_istore (L1 := [some (.ref 0), some (.int a1), some (.ref 31), some (.int 0), some (.long (-1)), none, some (.int 0), none, none]) hG dX10_work_44 (by decide) rfl ?_
      exact m_X10_work_c46 hG h
    · replace h := h.2 c11
      refine gg_bipush (v := (-3)) hG dX10_work_25 (by decide) ?_
      refine gg_xs (As := [.int (-3)]) (st := []) hG dX10_work_27 ml_RX10_148 Y_X10_refusal YS_X10_refusal (mt_X10_refusal h) rfl (by decide) (Nat.le_of_ble_eq_true rfl) rfl (gg_kj (fun v15 u14 h => ?_))
      exact gg_lret hG dX10_work_30 rfl ⟨_, rfl, h⟩
  · replace h := h.2 c10
    refine gg_bipush (v := (-2)) hG dX10_work_8 (by decide) ?_
    refine gg_xs (As := [.int (-2)]) (st := []) hG dX10_work_10 ml_RX10_148 Y_X10_refusal YS_X10_refusal (mt_X10_refusal h) rfl (by decide) (Nat.le_of_ble_eq_true rfl) rfl (gg_kj (fun v17 u16 h => ?_))
    exact gg_lret hG dX10_work_13 rfl ⟨_, rfl, h⟩
theorem mt_X10_work {a1 : Int32}  {u : gg_M} {Q : Int64 → gg_M → Prop} (h : w_X10_work a1 u Q) : gg_Mt 6 yX10_work cX10_work 9 (some .long) [.ref 0, .int a1] u (gg_eJ Q) :=
  gg_intro (own := RX10) (by decide +kernel) rfl rfl (Nat.le_of_ble_eq_true rfl) (fun G hG => m_X10_work hG  h)
/-! X10_drowned -/
def w_X10_drowned_c17  (u : gg_M)  (Q : Int32 → gg_M → Prop) : Prop :=
  Q (-2) u
set_option maxRecDepth 10000 in
theorem m_X10_drowned_c17  {u : gg_M}  {G : gg_T} {Q : Int32 → gg_M → Prop} (hG : gg_Cl none cX10_drowned 3 RX10 (some .int) 5 (gg_eI Q) G)  (h : w_X10_drowned_c17  u  Q)   : G 17 [none, none, none] [] u := by
  unfold w_X10_drowned_c17 at h
  refine gg_bipush (v := (-2)) hG dX10_drowned_17 (by decide) ?_
  exact gg_iret hG dX10_drowned_19 rfl rfl ⟨_, rfl, h⟩
def w_X10_drowned (a1 : Int32) (a2 : Int32) (u : gg_M)  (Q : Int32 → gg_M → Prop) : Prop :=
  w_X10_isBelow a1 32 u (fun v2 u1 =>
  (v2 = 0 →
   w_X10_drowned_c17 u1 Q) ∧
  (¬ v2 = 0 →
   w_X10_isBelow a2 4 u1 (fun v5 u4 =>
   (¬ v5 = 0 →
    w_X7_turnsToDrown 30 a1 a2 u4 (fun v8 u7 =>
    Q v8 u7)) ∧
   (v5 = 0 →
    w_X10_drowned_c17 u4 Q))))
set_option maxRecDepth 10000 in
theorem m_X10_drowned {a1 : Int32} {a2 : Int32} {u : gg_M}  {G : gg_T} {Q : Int32 → gg_M → Prop} (hG : gg_Cl none cX10_drowned 3 RX10 (some .int) 5 (gg_eI Q) G)  (h : w_X10_drowned a1 a2 u  Q)   : G 0 [some (.ref 0), some (.int a1), some (.int a2)] [] u := by
  unfold w_X10_drowned at h
  refine gg_iload_n hG dX10_drowned_0 rfl rfl ?_
  refine gg_bipush (v := 32) hG dX10_drowned_1 (by decide) ?_
  refine gg_xs (As := [.int a1, .int 32]) (st := []) hG dX10_drowned_3 ml_RX10_84 Y_X10_isBelow YS_X10_isBelow (mt_X10_isBelow h) rfl (by decide) (Nat.le_of_ble_eq_true rfl) rfl (gg_ki (fun v2 u1 h => ?_))
  refine gg_if_eq (tgt := 17) hG dX10_drowned_6 (by decide) (fun c3 => ?_) (fun c3 => ?_)
  · replace h := h.1 c3
    refine gg_mk hG [false, false, false] rfl ?_
    exact m_X10_drowned_c17 hG h
  · replace h := h.2 c3
    refine gg_iload_n hG dX10_drowned_9 rfl rfl ?_
    refine gg_iconst (v := 4) hG dX10_drowned_10 (by decide) ?_
    refine gg_xs (As := [.int a2, .int 4]) (st := []) hG dX10_drowned_11 ml_RX10_84 Y_X10_isBelow YS_X10_isBelow (mt_X10_isBelow h) rfl (by decide) (Nat.le_of_ble_eq_true rfl) rfl (gg_ki (fun v5 u4 h => ?_))
    refine gg_if_ne (tgt := 20) hG dX10_drowned_14 (by decide) (fun c6 => ?_) (fun c6 => ?_)
    · replace h := h.1 c6
      refine gg_aload_n hG dX10_drowned_20 rfl rfl ?_
      refine gg_get (v := .ref 30) hG dX10_drowned_21 (by decide) rfl fl_RX10_66 rfl ?_
      refine gg_aload_n hG dX10_drowned_24 rfl rfl ?_
      refine gg_get (v := .ref 6) hG dX10_drowned_25 (by decide) rfl fl_RX10_24 rfl ?_
      refine gg_iload_n hG dX10_drowned_28 rfl rfl ?_
      refine gg_iload_n hG dX10_drowned_29 rfl rfl ?_
      refine gg_xv (As := [.ref 6, .int a1, .int a2]) (st := []) hG dX10_drowned_30 ml_RX10_227 Y_X7_turnsToDrown YV_X7_turnsToDrown (by decide) ⟨_, rfl, rfl⟩ (mt_X7_turnsToDrown rfl h) rfl (by decide) (Nat.le_of_ble_eq_true rfl) rfl (gg_ki (fun v8 u7 h => ?_))
      exact gg_iret hG dX10_drowned_33 rfl rfl ⟨_, rfl, h⟩
    · replace h := h.2 c6
      refine gg_mk hG [false, false, false] rfl ?_
      exact m_X10_drowned_c17 hG h
theorem mt_X10_drowned {a1 : Int32} {a2 : Int32}  {u : gg_M} {Q : Int32 → gg_M → Prop} (h : w_X10_drowned a1 a2 u Q) : gg_Mt 5 yX10_drowned cX10_drowned 3 (some .int) [.ref 0, .int a1, .int a2] u (gg_eI Q) :=
  gg_intro (own := RX10) (by decide +kernel) rfl rfl (Nat.le_of_ble_eq_true rfl) (fun G hG => m_X10_drowned hG  h)
/-! X10_isDay -/
def w_X10_isDay_c23 (z0 : Int32) (u : gg_M)  (Q : Int32 → gg_M → Prop) : Prop :=
  (z0 = 0 ∨ z0 = 1) ∧
  Q z0 u
set_option maxRecDepth 10000 in
theorem m_X10_isDay_c23 {z0 : Int32} {u : gg_M}  {G : gg_T} {Q : Int32 → gg_M → Prop} (hG : gg_Cl none cX10_isDay 2 RX10 (some .boolean) 2 (gg_eI Q) G)  (h : w_X10_isDay_c23 z0 u  Q)   : G 23 [none, none] [.int z0] u := by
  unfold w_X10_isDay_c23 at h
  obtain ⟨h1, h⟩ := h
  exact gg_iret hG dX10_isDay_23 rfl (gg_nb h1).1 ⟨_, rfl, h⟩
def w_X10_isDay_c22  (u : gg_M)  (Q : Int32 → gg_M → Prop) : Prop :=
  w_X10_isDay_c23 0 u Q
set_option maxRecDepth 10000 in
theorem m_X10_isDay_c22  {u : gg_M}  {G : gg_T} {Q : Int32 → gg_M → Prop} (hG : gg_Cl none cX10_isDay 2 RX10 (some .boolean) 2 (gg_eI Q) G)  (h : w_X10_isDay_c22  u  Q)   : G 22 [none, none] [] u := by
  unfold w_X10_isDay_c22 at h
  refine gg_iconst (v := 0) hG dX10_isDay_22 (by decide) ?_
  exact m_X10_isDay_c23 hG h
def w_X10_isDay (a0 : Int32) (a1 : Int32) (u : gg_M)  (Q : Int32 → gg_M → Prop) : Prop :=
  w_X10_isBelow a0 41 u (fun v3 u2 =>
  (v3 = 0 →
   w_X10_isDay_c22 u2 Q) ∧
  (¬ v3 = 0 →
   w_X10_isBelow a1 10 u2 (fun v6 u5 =>
   (v6 = 0 →
    w_X10_isDay_c22 u5 Q) ∧
   (¬ v6 = 0 →
    w_X10_isDay_c23 1 u5 Q))))
set_option maxRecDepth 10000 in
theorem m_X10_isDay {a0 : Int32} {a1 : Int32} {u : gg_M}  {G : gg_T} {Q : Int32 → gg_M → Prop} (hG : gg_Cl none cX10_isDay 2 RX10 (some .boolean) 2 (gg_eI Q) G)  (h : w_X10_isDay a0 a1 u  Q)   : G 0 [some (.int a0), some (.int a1)] [] u := by
  unfold w_X10_isDay at h
  refine gg_iload_n hG dX10_isDay_0 rfl rfl ?_
  refine gg_bipush (v := 41) hG dX10_isDay_1 (by decide) ?_
  refine gg_xs (As := [.int a0, .int 41]) (st := []) hG dX10_isDay_3 ml_RX10_84 Y_X10_isBelow YS_X10_isBelow (mt_X10_isBelow h) rfl (by decide) (Nat.le_of_ble_eq_true rfl) rfl (gg_ki (fun v3 u2 h => ?_))
  refine gg_if_eq (tgt := 22) hG dX10_isDay_6 (by decide) (fun c4 => ?_) (fun c4 => ?_)
  · replace h := h.1 c4
    refine gg_mk hG [false, false] rfl ?_
    exact m_X10_isDay_c22 hG h
  · replace h := h.2 c4
    refine gg_iload_n hG dX10_isDay_9 rfl rfl ?_
    refine gg_bipush (v := 10) hG dX10_isDay_10 (by decide) ?_
    refine gg_xs (As := [.int a1, .int 10]) (st := []) hG dX10_isDay_12 ml_RX10_84 Y_X10_isBelow YS_X10_isBelow (mt_X10_isBelow h) rfl (by decide) (Nat.le_of_ble_eq_true rfl) rfl (gg_ki (fun v6 u5 h => ?_))
    refine gg_if_eq (tgt := 22) hG dX10_isDay_15 (by decide) (fun c7 => ?_) (fun c7 => ?_)
    · replace h := h.1 c7
      refine gg_mk hG [false, false] rfl ?_
      exact m_X10_isDay_c22 hG h
    · replace h := h.2 c7
      refine gg_iconst (v := 1) hG dX10_isDay_18 (by decide) ?_
      refine gg_goto (tgt := 23) hG dX10_isDay_19 (by decide) ?_
      refine gg_mk hG [false, false] rfl ?_
      exact m_X10_isDay_c23 hG h
theorem mt_X10_isDay {a0 : Int32} {a1 : Int32}  {u : gg_M} {Q : Int32 → gg_M → Prop} (h : w_X10_isDay a0 a1 u Q) : gg_Mt 2 yX10_isDay cX10_isDay 2 (some .boolean) [.int a0, .int a1] u (gg_eI Q) :=
  gg_intro (own := RX10) (by decide +kernel) rfl rfl (Nat.le_of_ble_eq_true rfl) (fun G hG => m_X10_isDay hG  h)
/-! X10_morning -/
def w_X10_morning_c45 (z0 : Int32) (u : gg_M)  (Q : Int32 → gg_M → Prop) : Prop :=
  Q z0 u
set_option maxRecDepth 10000 in
theorem m_X10_morning_c45 {z0 : Int32} {u : gg_M}  {G : gg_T} {Q : Int32 → gg_M → Prop} (hG : gg_Cl none cX10_morning 4 RX10 (some .int) 3 (gg_eI Q) G)  (h : w_X10_morning_c45 z0 u  Q)   : G 45 [none, none, none, none] [.int z0] u := by
  unfold w_X10_morning_c45 at h
  exact gg_iret hG dX10_morning_45 rfl rfl ⟨_, rfl, h⟩
def w_X10_morning_c17  (u : gg_M)  (Q : Int32 → gg_M → Prop) : Prop :=
  Q (-2) u
set_option maxRecDepth 10000 in
theorem m_X10_morning_c17  {u : gg_M}  {G : gg_T} {Q : Int32 → gg_M → Prop} (hG : gg_Cl none cX10_morning 4 RX10 (some .int) 3 (gg_eI Q) G)  (h : w_X10_morning_c17  u  Q)   : G 17 [none, none, none, none] [] u := by
  unfold w_X10_morning_c17 at h
  refine gg_bipush (v := (-2)) hG dX10_morning_17 (by decide) ?_
  exact gg_iret hG dX10_morning_19 rfl rfl ⟨_, rfl, h⟩
def w_X10_morning (a1 : Int32) (a2 : Int32) (a3 : Int32) (u : gg_M)  (Q : Int32 → gg_M → Prop) : Prop :=
  w_X10_isDay a1 a2 u (fun v2 u1 =>
  (v2 = 0 →
   w_X10_morning_c17 u1 Q) ∧
  (¬ v2 = 0 →
   w_X10_isBelow a3 31 u1 (fun v5 u4 =>
   (¬ v5 = 0 →
    w_X3_takes a1 a2 a3 u4 (fun v8 u7 =>
    (v8 = 0 →
     w_X10_morning_c45 (-4) u7 Q) ∧
    (¬ v8 = 0 →
     w_X10_morning_c45 (u7.1 33 5) u7 Q))) ∧
   (v5 = 0 →
    w_X10_morning_c17 u4 Q))))
set_option maxRecDepth 10000 in
theorem m_X10_morning {a1 : Int32} {a2 : Int32} {a3 : Int32} {u : gg_M}  {G : gg_T} {Q : Int32 → gg_M → Prop} (hG : gg_Cl none cX10_morning 4 RX10 (some .int) 3 (gg_eI Q) G)  (h : w_X10_morning a1 a2 a3 u  Q)   : G 0 [some (.ref 0), some (.int a1), some (.int a2), some (.int a3)] [] u := by
  unfold w_X10_morning at h
  refine gg_iload_n hG dX10_morning_0 rfl rfl ?_
  refine gg_iload_n hG dX10_morning_1 rfl rfl ?_
  refine gg_xs (As := [.int a1, .int a2]) (st := []) hG dX10_morning_2 ml_RX10_231 Y_X10_isDay YS_X10_isDay (mt_X10_isDay h) rfl (by decide) (Nat.le_of_ble_eq_true rfl) rfl (gg_ki (fun v2 u1 h => ?_))
  refine gg_if_eq (tgt := 17) hG dX10_morning_5 (by decide) (fun c3 => ?_) (fun c3 => ?_)
  · replace h := h.1 c3
    refine gg_mk hG [false, false, false, false] rfl ?_
    exact m_X10_morning_c17 hG h
  · replace h := h.2 c3
    refine gg_iload_n hG dX10_morning_8 rfl rfl ?_
    refine gg_bipush (v := 31) hG dX10_morning_9 (by decide) ?_
    refine gg_xs (As := [.int a3, .int 31]) (st := []) hG dX10_morning_11 ml_RX10_84 Y_X10_isBelow YS_X10_isBelow (mt_X10_isBelow h) rfl (by decide) (Nat.le_of_ble_eq_true rfl) rfl (gg_ki (fun v5 u4 h => ?_))
    refine gg_if_ne (tgt := 20) hG dX10_morning_14 (by decide) (fun c6 => ?_) (fun c6 => ?_)
    · replace h := h.1 c6
      refine gg_aload_n hG dX10_morning_20 rfl rfl ?_
      refine gg_get (v := .ref 33) hG dX10_morning_21 (by decide) rfl fl_RX10_73 rfl ?_
      refine gg_iload_n hG dX10_morning_24 rfl rfl ?_
      refine gg_iload_n hG dX10_morning_25 rfl rfl ?_
      refine gg_iload_n hG dX10_morning_26 rfl rfl ?_
      refine gg_xv (As := [.int a1, .int a2, .int a3]) (st := []) hG dX10_morning_27 ml_RX10_234 Y_X3_takes YV_X3_takes (by decide) ⟨_, rfl, rfl⟩ (mt_X3_takes h) rfl (by decide) (Nat.le_of_ble_eq_true rfl) rfl (gg_ki (fun v8 u7 h => ?_))
      refine gg_if_eq (tgt := 43) hG dX10_morning_30 (by decide) (fun c9 => ?_) (fun c9 => ?_)
      · replace h := h.1 c9
        refine gg_bipush (v := (-4)) hG dX10_morning_43 (by decide) ?_
        refine gg_mk hG [false, false, false, false] rfl ?_
        exact m_X10_morning_c45 hG h
      · replace h := h.2 c9
        refine gg_aload_n hG dX10_morning_33 rfl rfl ?_
        refine gg_get (v := .ref 33) hG dX10_morning_34 (by decide) rfl fl_RX10_73 rfl ?_
        refine gg_get (v := .int (u7.1 33 5)) hG dX10_morning_37 (by decide) rfl fl_RX10_237 rfl ?_
        refine gg_goto (tgt := 45) hG dX10_morning_40 (by decide) ?_
        refine gg_mk hG [false, false, false, false] rfl ?_
        exact m_X10_morning_c45 hG h
    · replace h := h.2 c6
      refine gg_mk hG [false, false, false, false] rfl ?_
      exact m_X10_morning_c17 hG h
theorem mt_X10_morning {a1 : Int32} {a2 : Int32} {a3 : Int32}  {u : gg_M} {Q : Int32 → gg_M → Prop} (h : w_X10_morning a1 a2 a3 u Q) : gg_Mt 3 yX10_morning cX10_morning 4 (some .int) [.ref 0, .int a1, .int a2, .int a3] u (gg_eI Q) :=
  gg_intro (own := RX10) (by decide +kernel) rfl rfl (Nat.le_of_ble_eq_true rfl) (fun G hG => m_X10_morning hG  h)
