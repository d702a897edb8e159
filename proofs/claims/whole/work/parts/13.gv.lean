/-! X10_isLaw -/
def w_X10_isLaw_c31 (z0 : Int32) (u : gg_M)  (Q : Int32 → gg_M → Prop) : Prop :=
  (z0 = 0 ∨ z0 = 1) ∧
  Q z0 u
set_option maxRecDepth 10000 in
theorem m_X10_isLaw_c31 {z0 : Int32} {u : gg_M}  {G : gg_T} {Q : Int32 → gg_M → Prop} (hG : gg_Cl none cX10_isLaw 3 RX10 (some .boolean) 2 (gg_eI Q) G)  (h : w_X10_isLaw_c31 z0 u  Q)   : G 31 [none, none, none] [.int z0] u := by
  unfold w_X10_isLaw_c31 at h
  obtain ⟨h1, h⟩ := h
  exact gg_iret hG dX10_isLaw_31 rfl (gg_nb h1).1 ⟨_, rfl, h⟩
def w_X10_isLaw_c30  (u : gg_M)  (Q : Int32 → gg_M → Prop) : Prop :=
  w_X10_isLaw_c31 0 u Q
set_option maxRecDepth 10000 in
theorem m_X10_isLaw_c30  {u : gg_M}  {G : gg_T} {Q : Int32 → gg_M → Prop} (hG : gg_Cl none cX10_isLaw 3 RX10 (some .boolean) 2 (gg_eI Q) G)  (h : w_X10_isLaw_c30  u  Q)   : G 30 [none, none, none] [] u := by
  unfold w_X10_isLaw_c30 at h
  refine gg_iconst (v := 0) hG dX10_isLaw_30 (by decide) ?_
  exact m_X10_isLaw_c31 hG h
def w_X10_isLaw (a0 : Int32) (a1 : Int32) (a2 : Int32) (u : gg_M)  (Q : Int32 → gg_M → Prop) : Prop :=
  w_X10_isBelow a0 10 u (fun v3 u2 =>
  (v3 = 0 →
   w_X10_isLaw_c30 u2 Q) ∧
  (¬ v3 = 0 →
   w_X10_isBelow a1 10 u2 (fun v6 u5 =>
   (v6 = 0 →
    w_X10_isLaw_c30 u5 Q) ∧
   (¬ v6 = 0 →
    w_X10_isBelow a2 4 u5 (fun v9 u8 =>
    (v9 = 0 →
     w_X10_isLaw_c30 u8 Q) ∧
    (¬ v9 = 0 →
     w_X10_isLaw_c31 1 u8 Q))))))
set_option maxRecDepth 10000 in
theorem m_X10_isLaw {a0 : Int32} {a1 : Int32} {a2 : Int32} {u : gg_M}  {G : gg_T} {Q : Int32 → gg_M → Prop} (hG : gg_Cl none cX10_isLaw 3 RX10 (some .boolean) 2 (gg_eI Q) G)  (h : w_X10_isLaw a0 a1 a2 u  Q)   : G 0 [some (.int a0), some (.int a1), some (.int a2)] [] u := by
  unfold w_X10_isLaw at h
  refine gg_iload_n hG dX10_isLaw_0 rfl rfl ?_
  refine gg_bipush (v := 10) hG dX10_isLaw_1 (by decide) ?_
  refine gg_xs (As := [.int a0, .int 10]) (st := []) hG dX10_isLaw_3 ml_RX10_84 Y_X10_isBelow YS_X10_isBelow (mt_X10_isBelow h) rfl (by decide) (Nat.le_of_ble_eq_true rfl) rfl (gg_ki (fun v3 u2 h => ?_))
  refine gg_if_eq (tgt := 30) hG dX10_isLaw_6 (by decide) (fun c4 => ?_) (fun c4 => ?_)
  · replace h := h.1 c4
    refine gg_mk hG [false, false, false] rfl ?_
    exact m_X10_isLaw_c30 hG h
  · replace h := h.2 c4
    refine gg_iload_n hG dX10_isLaw_9 rfl rfl ?_
    refine gg_bipush (v := 10) hG dX10_isLaw_10 (by decide) ?_
    refine gg_xs (As := [.int a1, .int 10]) (st := []) hG dX10_isLaw_12 ml_RX10_84 Y_X10_isBelow YS_X10_isBelow (mt_X10_isBelow h) rfl (by decide) (Nat.le_of_ble_eq_true rfl) rfl (gg_ki (fun v6 u5 h => ?_))
    refine gg_if_eq (tgt := 30) hG dX10_isLaw_15 (by decide) (fun c7 => ?_) (fun c7 => ?_)
    · replace h := h.1 c7
      refine gg_mk hG [false, false, false] rfl ?_
      exact m_X10_isLaw_c30 hG h
    · replace h := h.2 c7
      refine gg_iload_n hG dX10_isLaw_18 rfl rfl ?_
      refine gg_iconst (v := 4) hG dX10_isLaw_19 (by decide) ?_
      refine gg_xs (As := [.int a2, .int 4]) (st := []) hG dX10_isLaw_20 ml_RX10_84 Y_X10_isBelow YS_X10_isBelow (mt_X10_isBelow h) rfl (by decide) (Nat.le_of_ble_eq_true rfl) rfl (gg_ki (fun v9 u8 h => ?_))
      refine gg_if_eq (tgt := 30) hG dX10_isLaw_23 (by decide) (fun c10 => ?_) (fun c10 => ?_)
      · replace h := h.1 c10
        refine gg_mk hG [false, false, false] rfl ?_
        exact m_X10_isLaw_c30 hG h
      · replace h := h.2 c10
        refine gg_iconst (v := 1) hG dX10_isLaw_26 (by decide) ?_
        refine gg_goto (tgt := 31) hG dX10_isLaw_27 (by decide) ?_
        refine gg_mk hG [false, false, false] rfl ?_
        exact m_X10_isLaw_c31 hG h
theorem mt_X10_isLaw {a0 : Int32} {a1 : Int32} {a2 : Int32}  {u : gg_M} {Q : Int32 → gg_M → Prop} (h : w_X10_isLaw a0 a1 a2 u Q) : gg_Mt 2 yX10_isLaw cX10_isLaw 3 (some .boolean) [.int a0, .int a1, .int a2] u (gg_eI Q) :=
  gg_intro (own := RX10) (by decide +kernel) rfl rfl (Nat.le_of_ble_eq_true rfl) (fun G hG => m_X10_isLaw hG  h)
/-! X10_says -/
def w_X10_says_c34 (z0 : Int32) (u : gg_M)  (Q : Int32 → gg_M → Prop) : Prop :=
  Q z0 u
set_option maxRecDepth 10000 in
theorem m_X10_says_c34 {z0 : Int32} {u : gg_M}  {G : gg_T} {Q : Int32 → gg_M → Prop} (hG : gg_Cl none cX10_says 6 RX10 (some .int) 3 (gg_eI Q) G)  (h : w_X10_says_c34 z0 u  Q)   : G 34 [none, none, none, none, none, none] [.int z0] u := by
  unfold w_X10_says_c34 at h
  exact gg_iret hG dX10_says_34 rfl rfl ⟨_, rfl, h⟩
def w_X10_says_c32  (u : gg_M)  (Q : Int32 → gg_M → Prop) : Prop :=
  w_X10_says_c34 (-2) u Q
set_option maxRecDepth 10000 in
theorem m_X10_says_c32  {u : gg_M}  {G : gg_T} {Q : Int32 → gg_M → Prop} (hG : gg_Cl none cX10_says 6 RX10 (some .int) 3 (gg_eI Q) G)  (h : w_X10_says_c32  u  Q)   : G 32 [none, none, none, none, none, none] [] u := by
  unfold w_X10_says_c32 at h
  refine gg_bipush (v := (-2)) hG dX10_says_32 (by decide) ?_
  exact m_X10_says_c34 hG h
def w_X10_says (a1 : Int32) (a2 : Int32) (a3 : Int32) (a4 : Int32) (a5 : Int32) (u : gg_M)  (Q : Int32 → gg_M → Prop) : Prop :=
  w_X10_isLaw a1 a2 a3 u (fun v2 u1 =>
  (v2 = 0 →
   w_X10_says_c32 u1 Q) ∧
  (¬ v2 = 0 →
   w_X10_isDay a4 a5 u1 (fun v5 u4 =>
   (v5 = 0 →
    w_X10_says_c32 u4 Q) ∧
   (¬ v5 = 0 →
    w_X3_lawSays a1 a2 a3 a4 a5 u4 (fun v8 u7 =>
    w_X10_says_c34 v8 u7 Q)))))
set_option maxRecDepth 10000 in
theorem m_X10_says {a1 : Int32} {a2 : Int32} {a3 : Int32} {a4 : Int32} {a5 : Int32} {u : gg_M}  {G : gg_T} {Q : Int32 → gg_M → Prop} (hG : gg_Cl none cX10_says 6 RX10 (some .int) 3 (gg_eI Q) G)  (h : w_X10_says a1 a2 a3 a4 a5 u  Q)   : G 0 [some (.ref 0), some (.int a1), some (.int a2), some (.int a3), some (.int a4), some (.int a5)] [] u := by
  unfold w_X10_says at h
  refine gg_iload_n hG dX10_says_0 rfl rfl ?_
  refine gg_iload_n hG dX10_says_1 rfl rfl ?_
  refine gg_iload_n hG dX10_says_2 rfl rfl ?_
  refine gg_xs (As := [.int a1, .int a2, .int a3]) (st := []) hG dX10_says_3 ml_RX10_238 Y_X10_isLaw YS_X10_isLaw (mt_X10_isLaw h) rfl (by decide) (Nat.le_of_ble_eq_true rfl) rfl (gg_ki (fun v2 u1 h => ?_))
  refine gg_if_eq (tgt := 32) hG dX10_says_6 (by decide) (fun c3 => ?_) (fun c3 => ?_)
  · replace h := h.1 c3
    refine gg_mk hG [false, false, false, false, false, false] rfl ?_
    exact m_X10_says_c32 hG h
  · replace h := h.2 c3
    refine gg_iload hG dX10_says_9 rfl ?_
    refine gg_iload hG dX10_says_11 rfl ?_
    refine gg_xs (As := [.int a4, .int a5]) (st := []) hG dX10_says_13 ml_RX10_231 Y_X10_isDay YS_X10_isDay (mt_X10_isDay h) rfl (by decide) (Nat.le_of_ble_eq_true rfl) rfl (gg_ki (fun v5 u4 h => ?_))
    refine gg_if_eq (tgt := 32) hG dX10_says_16 (by decide) (fun c6 => ?_) (fun c6 => ?_)
    · replace h := h.1 c6
      refine gg_mk hG [false, false, false, false, false, false] rfl ?_
      exact m_X10_says_c32 hG h
    · replace h := h.2 c6
      refine gg_iload_n hG dX10_says_19 rfl rfl ?_
      refine gg_iload_n hG dX10_says_20 rfl rfl ?_
      refine gg_iload_n hG dX10_says_21 rfl rfl ?_
      refine gg_iload hG dX10_says_22 rfl ?_
      refine gg_iload hG dX10_says_24 rfl ?_
      refine gg_xs (As := [.int a1, .int a2, .int a3, .int a4, .int a5]) (st := []) hG dX10_says_26 ml_RX10_241 Y_X3_lawSays YS_X3_lawSays (mt_X3_lawSays h) rfl (by decide) (Nat.le_of_ble_eq_true rfl) rfl (gg_ki (fun v8 u7 h => ?_))
      refine gg_goto (tgt := 34) hG dX10_says_29 (by decide) ?_
      refine gg_mk hG [false, false, false, false, false, false] rfl ?_
      exact m_X10_says_c34 hG h
theorem mt_X10_says {a1 : Int32} {a2 : Int32} {a3 : Int32} {a4 : Int32} {a5 : Int32}  {u : gg_M} {Q : Int32 → gg_M → Prop} (h : w_X10_says a1 a2 a3 a4 a5 u Q) : gg_Mt 3 yX10_says cX10_says 6 (some .int) [.ref 0, .int a1, .int a2, .int a3, .int a4, .int a5] u (gg_eI Q) :=
  gg_intro (own := RX10) (by decide +kernel) rfl rfl (Nat.le_of_ble_eq_true rfl) (fun G hG => m_X10_says hG  h)
/-! X10_misses -/
def w_X10_misses_c24 (z0 : Int32) (u : gg_M)  (Q : Int32 → gg_M → Prop) : Prop :=
  Q z0 u
set_option maxRecDepth 10000 in
theorem m_X10_misses_c24 {z0 : Int32} {u : gg_M}  {G : gg_T} {Q : Int32 → gg_M → Prop} (hG : gg_Cl none cX10_misses 4 RX10 (some .int) 3 (gg_eI Q) G)  (h : w_X10_misses_c24 z0 u  Q)   : G 24 [none, none, none, none] [.int z0] u := by
  unfold w_X10_misses_c24 at h
  exact gg_iret hG dX10_misses_24 rfl rfl ⟨_, rfl, h⟩
def w_X10_misses (a1 : Int32) (a2 : Int32) (a3 : Int32) (u : gg_M)  (Q : Int32 → gg_M → Prop) : Prop :=
  w_X10_isLaw a1 a2 a3 u (fun v2 u1 =>
  (v2 = 0 →
   w_X10_misses_c24 (-2) u1 Q) ∧
  (¬ v2 = 0 →
   w_X3_offBy a1 a2 a3 u1 (fun v5 u4 =>
   w_X10_misses_c24 v5 u4 Q)))
set_option maxRecDepth 10000 in
theorem m_X10_misses {a1 : Int32} {a2 : Int32} {a3 : Int32} {u : gg_M}  {G : gg_T} {Q : Int32 → gg_M → Prop} (hG : gg_Cl none cX10_misses 4 RX10 (some .int) 3 (gg_eI Q) G)  (h : w_X10_misses a1 a2 a3 u  Q)   : G 0 [some (.ref 0), some (.int a1), some (.int a2), some (.int a3)] [] u := by
  unfold w_X10_misses at h
  refine gg_iload_n hG dX10_misses_0 rfl rfl ?_
  refine gg_iload_n hG dX10_misses_1 rfl rfl ?_
  refine gg_iload_n hG dX10_misses_2 rfl rfl ?_
  refine gg_xs (As := [.int a1, .int a2, .int a3]) (st := []) hG dX10_misses_3 ml_RX10_238 Y_X10_isLaw YS_X10_isLaw (mt_X10_isLaw h) rfl (by decide) (Nat.le_of_ble_eq_true rfl) rfl (gg_ki (fun v2 u1 h => ?_))
  refine gg_if_eq (tgt := 22) hG dX10_misses_6 (by decide) (fun c3 => ?_) (fun c3 => ?_)
  · replace h := h.1 c3
    refine gg_bipush (v := (-2)) hG dX10_misses_22 (by decide) ?_
    refine gg_mk hG [false, false, false, false] rfl ?_
    exact m_X10_misses_c24 hG h
  · replace h := h.2 c3
    refine gg_aload_n hG dX10_misses_9 rfl rfl ?_
    refine gg_get (v := .ref 33) hG dX10_misses_10 (by decide) rfl fl_RX10_73 rfl ?_
    refine gg_iload_n hG dX10_misses_13 rfl rfl ?_
    refine gg_iload_n hG dX10_misses_14 rfl rfl ?_
    refine gg_iload_n hG dX10_misses_15 rfl rfl ?_
    refine gg_xv (As := [.int a1, .int a2, .int a3]) (st := []) hG dX10_misses_16 ml_RX10_245 Y_X3_offBy YV_X3_offBy (by decide) ⟨_, rfl, rfl⟩ (mt_X3_offBy h) rfl (by decide) (Nat.le_of_ble_eq_true rfl) rfl (gg_ki (fun v5 u4 h => ?_))
    refine gg_goto (tgt := 24) hG dX10_misses_19 (by decide) ?_
    refine gg_mk hG [false, false, false, false] rfl ?_
    exact m_X10_misses_c24 hG h
theorem mt_X10_misses {a1 : Int32} {a2 : Int32} {a3 : Int32}  {u : gg_M} {Q : Int32 → gg_M → Prop} (h : w_X10_misses a1 a2 a3 u Q) : gg_Mt 3 yX10_misses cX10_misses 4 (some .int) [.ref 0, .int a1, .int a2, .int a3] u (gg_eI Q) :=
  gg_intro (own := RX10) (by decide +kernel) rfl rfl (Nat.le_of_ble_eq_true rfl) (fun G hG => m_X10_misses hG  h)
/-! X10_fits -/
def w_X10_fits (a1 : Int32) (u : gg_M)  (Q : Int32 → gg_M → Prop) : Prop :=
  w_X10_isBelow a1 4 u (fun v2 u1 =>
  (¬ v2 = 0 →
   (0 < (u1.1 33 5) →
    w_X3_findLaw u1 (fun u5 =>
    vp_in a1 4 ∧
    Q (u5.1 37 a1.toNatClampNeg) u5)) ∧
   (¬ 0 < (u1.1 33 5) →
    Q (-3) u1)) ∧
  (v2 = 0 →
   Q (-2) u1))
set_option maxRecDepth 10000 in
theorem m_X10_fits {a1 : Int32} {u : gg_M}  {G : gg_T} {Q : Int32 → gg_M → Prop} (hG : gg_Cl none cX10_fits 2 RX10 (some .int) 5 (gg_eI Q) G)  (h : w_X10_fits a1 u  Q)   : G 0 [some (.ref 0), some (.int a1)] [] u := by
  unfold w_X10_fits at h
  refine gg_iload_n hG dX10_fits_0 rfl rfl ?_
  refine gg_iconst (v := 4) hG dX10_fits_1 (by decide) ?_
  refine gg_xs (As := [.int a1, .int 4]) (st := []) hG dX10_fits_2 ml_RX10_84 Y_X10_isBelow YS_X10_isBelow (mt_X10_isBelow h) rfl (by decide) (Nat.le_of_ble_eq_true rfl) rfl (gg_ki (fun v2 u1 h => ?_))
  refine gg_if_ne (tgt := 11) hG dX10_fits_5 (by decide) (fun c3 => ?_) (fun c3 => ?_)
  · replace h := h.1 c3
    refine gg_aload_n hG dX10_fits_11 rfl rfl ?_
    refine gg_get (v := .ref 33) hG dX10_fits_12 (by decide) rfl fl_RX10_73 rfl ?_
    refine gg_get (v := .int (u1.1 33 5)) hG dX10_fits_15 (by decide) rfl fl_RX10_237 rfl ?_
    refine gg_if_gt (tgt := 24) hG dX10_fits_18 (by decide) (fun c4 => ?_) (fun c4 => ?_)
    · replace h := h.1 c4
      refine gg_aload_n hG dX10_fits_24 rfl rfl ?_
      refine gg_get (v := .ref 33) hG dX10_fits_25 (by decide) rfl fl_RX10_73 rfl ?_
      refine gg_xv (As := []) (st := []) hG dX10_fits_28 ml_RX10_249 Y_X3_findLaw YV_X3_findLaw (by decide) ⟨_, rfl, rfl⟩ (mt_X3_findLaw h) rfl (by decide) (Nat.le_of_ble_eq_true rfl) rfl (gg_kv (fun u5 h => ?_))
      refine gg_aload_n hG dX10_fits_31 rfl rfl ?_
      refine gg_get (v := .ref 33) hG dX10_fits_32 (by decide) rfl fl_RX10_73 rfl ?_
      refine gg_get (v := .ref 37) hG dX10_fits_35 (by decide) rfl fl_RX10_252 rfl ?_
      refine gg_iload_n hG dX10_fits_38 rfl rfl ?_
      obtain ⟨h6, h⟩ := h
      refine gg_iald (j := a1.toNatClampNeg) hG dX10_fits_39 (by decide) rfl h6 rfl ?_
      exact gg_iret hG dX10_fits_40 rfl rfl ⟨_, rfl, h⟩
    · replace h := h.2 c4
      refine gg_bipush (v := (-3)) hG dX10_fits_21 (by decide) ?_
      exact gg_iret hG dX10_fits_23 rfl rfl ⟨_, rfl, h⟩
  · replace h := h.2 c3
    refine gg_bipush (v := (-2)) hG dX10_fits_8 (by decide) ?_
    exact gg_iret hG dX10_fits_10 rfl rfl ⟨_, rfl, h⟩
theorem mt_X10_fits {a1 : Int32}  {u : gg_M} {Q : Int32 → gg_M → Prop} (h : w_X10_fits a1 u Q) : gg_Mt 5 yX10_fits cX10_fits 2 (some .int) [.ref 0, .int a1] u (gg_eI Q) :=
  gg_intro (own := RX10) (by decide +kernel) rfl rfl (Nat.le_of_ble_eq_true rfl) (fun G hG => m_X10_fits hG  h)
/-! X10_sheet -/
def w_X10_sheet_c22  (u : gg_M)  (Q : Int32 → gg_M → Prop) : Prop :=
  Q (-2) u
set_option maxRecDepth 10000 in
theorem m_X10_sheet_c22  {u : gg_M}  {G : gg_T} {Q : Int32 → gg_M → Prop} (hG : gg_Cl none cX10_sheet 4 RX10 (some .int) 3 (gg_eI Q) G)  (h : w_X10_sheet_c22  u  Q)   : G 22 [none, none, none, none] [] u := by
  unfold w_X10_sheet_c22 at h
  refine gg_bipush (v := (-2)) hG dX10_sheet_22 (by decide) ?_
  exact gg_iret hG dX10_sheet_24 rfl rfl ⟨_, rfl, h⟩
def w_X10_sheet (a1 : Int32) (a2 : Int32) (a3 : Int32) (u : gg_M)  (Q : Int32 → gg_M → Prop) : Prop :=
  w_X10_isBelow a1 4 u (fun v2 u1 =>
  (v2 = 0 →
   w_X10_sheet_c22 u1 Q) ∧
  (¬ v2 = 0 →
   w_X10_isBelow a2 3 u1 (fun v5 u4 =>
   (v5 = 0 →
    w_X10_sheet_c22 u4 Q) ∧
   (¬ v5 = 0 →
    (a3 ≤ 48 →
     (0 ≤ a3 →
      vp_in a1 4 ∧
      w_X6_lay (gg_rf 38 a1.toNatClampNeg) a2 a3 u4 (fun u10 =>
      Q a3 u10)) ∧
     (¬ 0 ≤ a3 →
      w_X10_found 5 u4 (fun v12 u11 =>
      Q v12 u11))) ∧
    (¬ a3 ≤ 48 →
     w_X10_sheet_c22 u4 Q)))))
set_option maxRecDepth 10000 in
theorem m_X10_sheet {a1 : Int32} {a2 : Int32} {a3 : Int32} {u : gg_M}  {G : gg_T} {Q : Int32 → gg_M → Prop} (hG : gg_Cl none cX10_sheet 4 RX10 (some .int) 3 (gg_eI Q) G)  (h : w_X10_sheet a1 a2 a3 u  Q)   : G 0 [some (.ref 0), some (.int a1), some (.int a2), some (.int a3)] [] u := by
  unfold w_X10_sheet at h
  refine gg_iload_n hG dX10_sheet_0 rfl rfl ?_
  refine gg_iconst (v := 4) hG dX10_sheet_1 (by decide) ?_
  refine gg_xs (As := [.int a1, .int 4]) (st := []) hG dX10_sheet_2 ml_RX10_84 Y_X10_isBelow YS_X10_isBelow (mt_X10_isBelow h) rfl (by decide) (Nat.le_of_ble_eq_true rfl) rfl (gg_ki (fun v2 u1 h => ?_))
  refine gg_if_eq (tgt := 22) hG dX10_sheet_5 (by decide) (fun c3 => ?_) (fun c3 => ?_)
  · replace h := h.1 c3
    refine gg_mk hG [false, false, false, false] rfl ?_
    exact m_X10_sheet_c22 hG h
  · replace h := h.2 c3
    refine gg_iload_n hG dX10_sheet_8 rfl rfl ?_
    refine gg_iconst (v := 3) hG dX10_sheet_9 (by decide) ?_
    refine gg_xs (As := [.int a2, .int 3]) (st := []) hG dX10_sheet_10 ml_RX10_84 Y_X10_isBelow YS_X10_isBelow (mt_X10_isBelow h) rfl (by decide) (Nat.le_of_ble_eq_true rfl) rfl (gg_ki (fun v5 u4 h => ?_))
    refine gg_if_eq (tgt := 22) hG dX10_sheet_13 (by decide) (fun c6 => ?_) (fun c6 => ?_)
    · replace h := h.1 c6
      refine gg_mk hG [false, false, false, false] rfl ?_
      exact m_X10_sheet_c22 hG h
    · replace h := h.2 c6
      refine gg_iload_n hG dX10_sheet_16 rfl rfl ?_
      refine gg_bipush (v := 48) hG dX10_sheet_17 (by decide) ?_
      refine gg_ic_le (tgt := 25) hG dX10_sheet_19 (by decide) (fun c7 => ?_) (fun c7 => ?_)
      · replace h := h.1 c7
        refine gg_iload_n hG dX10_sheet_25 rfl rfl ?_
        refine gg_if_ge (tgt := 35) hG dX10_sheet_26 (by decide) (fun c8 => ?_) (fun c8 => ?_)
        · replace h := h.1 c8
          refine gg_aload_n hG dX10_sheet_35 rfl rfl ?_
          refine gg_get (v := .ref 38) hG dX10_sheet_36 (by decide) rfl fl_RX10_79 rfl ?_
          refine gg_iload_n hG dX10_sheet_39 rfl rfl ?_
          obtain ⟨h9, h⟩ := h
          refine gg_aald (j := a1.toNatClampNeg) (r := (gg_rf 38 a1.toNatClampNeg)) hG dX10_sheet_40 (by decide) (Or.inl rfl) h9 rfl rfl ?_
          refine gg_iload_n hG dX10_sheet_41 rfl rfl ?_
          refine gg_iload_n hG dX10_sheet_42 rfl rfl ?_
          refine gg_xv (As := [.int a2, .int a3]) (st := []) hG dX10_sheet_43 ml_RX10_255 Y_X6_lay YV_X6_lay (gg_kd_lt (gg_rf38 h9) (by decide)) (gg_rcv (gg_rf38 h9) rfl) (mt_X6_lay (gg_rf38 h9) h) rfl (by decide) (Nat.le_of_ble_eq_true rfl) rfl (gg_kv (fun u10 h => ?_))
          refine gg_iload_n hG dX10_sheet_46 rfl rfl ?_
          exact gg_iret hG dX10_sheet_47 rfl rfl ⟨_, rfl, h⟩
        · replace h := h.2 c8
          refine gg_aload_n hG dX10_sheet_29 rfl rfl ?_
          refine gg_iconst (v := 5) hG dX10_sheet_30 (by decide) ?_
          refine gg_xv (As := [.int 5]) (st := []) hG dX10_sheet_31 ml_RX10_125 Y_X10_found YV_X10_found (by decide) ⟨_, rfl, rfl⟩ (mt_X10_found h) rfl (by decide) (Nat.le_of_ble_eq_true rfl) rfl (gg_ki (fun v12 u11 h => ?_))
          exact gg_iret hG dX10_sheet_34 rfl rfl ⟨_, rfl, h⟩
      · replace h := h.2 c7
        refine gg_mk hG [false, false, false, false] rfl ?_
        exact m_X10_sheet_c22 hG h
theorem mt_X10_sheet {a1 : Int32} {a2 : Int32} {a3 : Int32}  {u : gg_M} {Q : Int32 → gg_M → Prop} (h : w_X10_sheet a1 a2 a3 u Q) : gg_Mt 3 yX10_sheet cX10_sheet 4 (some .int) [.ref 0, .int a1, .int a2, .int a3] u (gg_eI Q) :=
  gg_intro (own := RX10) (by decide +kernel) rfl rfl (Nat.le_of_ble_eq_true rfl) (fun G hG => m_X10_sheet hG  h)
/-! X10_lose -/
def w_X10_lose (a1 : Int32) (u : gg_M)  (Q : Int32 → gg_M → Prop) : Prop :=
  w_X10_isBelow a1 4 u (fun v2 u1 =>
  (¬ v2 = 0 →
   vp_in a1 4 ∧
   w_X6_isLost (gg_rf 38 a1.toNatClampNeg) u1 (fun v6 u5 =>
   (v6 = 0 →
    vp_in a1 4 ∧
    ∀ v9 : Int32, v9 = (u5.1 (gg_rf 38 a1.toNatClampNeg) 2) →
    vp_in a1 4 ∧
    w_X6_lay (gg_rf 38 a1.toNatClampNeg) (-1) 0 u5 (fun u11 =>
    Q v9 u11)) ∧
   (¬ v6 = 0 →
    w_X10_found 1 u5 (fun v13 u12 =>
    Q v13 u12)))) ∧
  (v2 = 0 →
   Q (-2) u1))
set_option maxRecDepth 10000 in
theorem m_X10_lose {a1 : Int32} {u : gg_M}  {G : gg_T} {Q : Int32 → gg_M → Prop} (hG : gg_Cl none cX10_lose 3 RX10 (some .int) 3 (gg_eI Q) G)  (h : w_X10_lose a1 u  Q)   : G 0 [some (.ref 0), some (.int a1), none] [] u := by
  unfold w_X10_lose at h
  refine gg_iload_n hG dX10_lose_0 rfl rfl ?_
  refine gg_iconst (v := 4) hG dX10_lose_1 (by decide) ?_
  refine gg_xs (As := [.int a1, .int 4]) (st := []) hG dX10_lose_2 ml_RX10_84 Y_X10_isBelow YS_X10_isBelow (mt_X10_isBelow h) rfl (by decide) (Nat.le_of_ble_eq_true rfl) rfl (gg_ki (fun v2 u1 h => ?_))
  refine gg_if_ne (tgt := 11) hG dX10_lose_5 (by decide) (fun c3 => ?_) (fun c3 => ?_)
  · replace h := h.1 c3
    refine gg_aload_n hG dX10_lose_11 rfl rfl ?_
    refine gg_get (v := .ref 38) hG dX10_lose_12 (by decide) rfl fl_RX10_79 rfl ?_
    refine gg_iload_n hG dX10_lose_15 rfl rfl ?_
    obtain ⟨h4, h⟩ := h
    refine gg_aald (j := a1.toNatClampNeg) (r := (gg_rf 38 a1.toNatClampNeg)) hG dX10_lose_16 (by decide) (Or.inl rfl) h4 rfl rfl ?_
    refine gg_xv (As := []) (st := []) hG dX10_lose_17 ml_RX10_121 Y_X6_isLost YV_X6_isLost (gg_kd_lt (gg_rf38 h4) (by decide)) (gg_rcv (gg_rf38 h4) rfl) (mt_X6_isLost (gg_rf38 h4) h) rfl (by decide) (Nat.le_of_ble_eq_true rfl) rfl (gg_ki (fun v6 u5 h => ?_))
    refine gg_if_eq (tgt := 29) hG dX10_lose_20 (by decide) (fun c7 => ?_) (fun c7 => ?_)
    · replace h := h.1 c7
      refine gg_aload_n hG dX10_lose_29 rfl rfl ?_
      refine gg_get (v := .ref 38) hG dX10_lose_30 (by decide) rfl fl_RX10_79 rfl ?_
      refine gg_iload_n hG dX10_lose_33 rfl rfl ?_
      obtain ⟨h8, h⟩ := h
      refine gg_aald (j := a1.toNatClampNeg) (r := (gg_rf 38 a1.toNatClampNeg)) hG dX10_lose_34 (by decide) (Or.inl rfl) h8 rfl rfl ?_
      refine gg_get (v := .int (u5.1 (gg_rf 38 a1.toNatClampNeg) 2)) hG dX10_lose_35 (gg_kd_lt (gg_rf38 h8) (by decide)) (gg_rf38 h8) fl_RX10_129 (gg_fvI (gg_rf38 h8) rfl) ?_
      refine gg_ni (fun v9 e9 => ?_)
      replace h := h v9 e9
      refine gg_istore_n (L1 := [some (.ref 0), some (.int a1), some (.int v9)]) hG dX10_lose_38 rfl (by decide) rfl ?_
      refine gg_aload_n hG dX10_lose_39 rfl rfl ?_
      refine gg_get (v := .ref 38) hG dX10_lose_40 (by decide) rfl fl_RX10_79 rfl ?_
      refine gg_iload_n hG dX10_lose_43 rfl rfl ?_
      obtain ⟨h10, h⟩ := h
      refine gg_aald (j := a1.toNatClampNeg) (r := (gg_rf 38 a1.toNatClampNeg)) hG dX10_lose_44 (by decide) (Or.inl rfl) h10 rfl rfl ?_
      refine gg_iconst (v := (-1)) hG dX10_lose_45 (by decide) ?_
      refine gg_iconst (v := 0) hG dX10_lose_46 (by decide) ?_
      refine gg_xv (As := [.int (-1), .int 0]) (st := []) hG dX10_lose_47 ml_RX10_255 Y_X6_lay YV_X6_lay (gg_kd_lt (gg_rf38 h10) (by decide)) (gg_rcv (gg_rf38 h10) rfl) (mt_X6_lay (gg_rf38 h10) h) rfl (by decide) (Nat.le_of_ble_eq_true rfl) rfl (gg_kv (fun u11 h => ?_))
      refine gg_iload_n hG dX10_lose_50 rfl rfl ?_
      exact gg_iret hG dX10_lose_51 rfl rfl ⟨_, rfl, h⟩
    · replace h := h.2 c7
      refine gg_aload_n hG dX10_lose_23 rfl rfl ?_
      refine gg_iconst (v := 1) hG dX10_lose_24 (by decide) ?_
      refine gg_xv (As := [.int 1]) (st := []) hG dX10_lose_25 ml_RX10_125 Y_X10_found YV_X10_found (by decide) ⟨_, rfl, rfl⟩ (mt_X10_found h) rfl (by decide) (Nat.le_of_ble_eq_true rfl) rfl (gg_ki (fun v13 u12 h => ?_))
      exact gg_iret hG dX10_lose_28 rfl rfl ⟨_, rfl, h⟩
  · replace h := h.2 c3
    refine gg_bipush (v := (-2)) hG dX10_lose_8 (by decide) ?_
    exact gg_iret hG dX10_lose_10 rfl rfl ⟨_, rfl, h⟩
theorem mt_X10_lose {a1 : Int32}  {u : gg_M} {Q : Int32 → gg_M → Prop} (h : w_X10_lose a1 u Q) : gg_Mt 3 yX10_lose cX10_lose 3 (some .int) [.ref 0, .int a1] u (gg_eI Q) :=
  gg_intro (own := RX10) (by decide +kernel) rfl rfl (Nat.le_of_ble_eq_true rfl) (fun G hG => m_X10_lose hG  h)
/-! X10_put -/
def w_X10_put_c16  (u : gg_M)  (Q : Int32 → gg_M → Prop) : Prop :=
  Q (-2) u
set_option maxRecDepth 10000 in
theorem m_X10_put_c16  {u : gg_M}  {G : gg_T} {Q : Int32 → gg_M → Prop} (hG : gg_Cl none cX10_put 6 RX10 (some .int) 3 (gg_eI Q) G)  (h : w_X10_put_c16  u  Q)   : G 16 [none, none, none, none, none, none] [] u := by
  unfold w_X10_put_c16 at h
  refine gg_bipush (v := (-2)) hG dX10_put_16 (by decide) ?_
  exact gg_iret hG dX10_put_18 rfl rfl ⟨_, rfl, h⟩
def w_X10_put (a1 : Int32) (a2 : Int32) (a3 : Int32) (a4 : Int32) (u : gg_M)  (Q : Int32 → gg_M → Prop) : Prop :=
  w_X10_isBelow a1 4 u (fun v2 u1 =>
  (v2 = 0 →
   w_X10_put_c16 u1 Q) ∧
  (¬ v2 = 0 →
   w_X10_isBelow a2 3 u1 (fun v5 u4 =>
   (¬ v5 = 0 →
    vp_in a1 4 ∧
    w_X6_wrongWith (gg_rf 38 a1.toNatClampNeg) a2 a3 u4 (fun v9 u8 =>
    (v9 = 0 →
     vp_in a1 4 ∧
     w_X6_keep (gg_rf 38 a1.toNatClampNeg) a3 a4 u8 (fun u12 =>
     Q 1 u12)) ∧
    (¬ v9 = 0 →
     w_X10_found v9 u8 (fun v14 u13 =>
     Q v14 u13)))) ∧
   (v5 = 0 →
    w_X10_put_c16 u4 Q))))
set_option maxRecDepth 10000 in
theorem m_X10_put {a1 : Int32} {a2 : Int32} {a3 : Int32} {a4 : Int32} {u : gg_M}  {G : gg_T} {Q : Int32 → gg_M → Prop} (hG : gg_Cl none cX10_put 6 RX10 (some .int) 3 (gg_eI Q) G)  (h : w_X10_put a1 a2 a3 a4 u  Q)   : G 0 [some (.ref 0), some (.int a1), some (.int a2), some (.int a3), some (.int a4), none] [] u := by
  unfold w_X10_put at h
  refine gg_iload_n hG dX10_put_0 rfl rfl ?_
  refine gg_iconst (v := 4) hG dX10_put_1 (by decide) ?_
  refine gg_xs (As := [.int a1, .int 4]) (st := []) hG dX10_put_2 ml_RX10_84 Y_X10_isBelow YS_X10_isBelow (mt_X10_isBelow h) rfl (by decide) (Nat.le_of_ble_eq_true rfl) rfl (gg_ki (fun v2 u1 h => ?_))
  refine gg_if_eq (tgt := 16) hG dX10_put_5 (by decide) (fun c3 => ?_) (fun c3 => ?_)
  · replace h := h.1 c3
    refine gg_mk hG [false, false, false, false, false, false] rfl ?_
    exact m_X10_put_c16 hG h
  · replace h := h.2 c3
    refine gg_iload_n hG dX10_put_8 rfl rfl ?_
    refine gg_iconst (v := 3) hG dX10_put_9 (by decide) ?_
    refine gg_xs (As := [.int a2, .int 3]) (st := []) hG dX10_put_10 ml_RX10_84 Y_X10_isBelow YS_X10_isBelow (mt_X10_isBelow h) rfl (by decide) (Nat.le_of_ble_eq_true rfl) rfl (gg_ki (fun v5 u4 h => ?_))
    refine gg_if_ne (tgt := 19) hG dX10_put_13 (by decide) (fun c6 => ?_) (fun c6 => ?_)
    · replace h := h.1 c6
      refine gg_aload_n hG dX10_put_19 rfl rfl ?_
      refine gg_get (v := .ref 38) hG dX10_put_20 (by decide) rfl fl_RX10_79 rfl ?_
      refine gg_iload_n hG dX10_put_23 rfl rfl ?_
      obtain ⟨h7, h⟩ := h
      refine gg_aald (j := a1.toNatClampNeg) (r := (gg_rf 38 a1.toNatClampNeg)) hG dX10_put_24 (by decide) (Or.inl rfl) h7 rfl rfl ?_
      refine gg_iload_n hG dX10_put_25 rfl rfl ?_
      refine gg_iload_n hG dX10_put_26 rfl rfl ?_
      refine gg_xv (As := [.int a2, .int a3]) (st := []) hG dX10_put_27 ml_RX10_259 Y_X6_wrongWith YV_X6_wrongWith (gg_kd_lt (gg_rf38 h7) (by decide)) (gg_rcv (gg_rf38 h7) rfl) (mt_X6_wrongWith (gg_rf38 h7) h) rfl (by decide) (Nat.le_of_ble_eq_true rfl) rfl (gg_ki (fun v9 u8 h => ?_))
      refine gg_istore (L1 := [some (.ref 0), some (.int a1), some (.int a2), some (.int a3), some (.int a4), some (.int v9)]) hG dX10_put_30 (by decide) rfl ?_
      refine gg_iload hG dX10_put_32 rfl ?_
      refine gg_if_eq (tgt := 44) hG dX10_put_34 (by decide) (fun c10 => ?_) (fun c10 => ?_)
      · replace h := h.1 c10
        refine gg_aload_n hG dX10_put_44 rfl rfl ?_
        refine gg_get (v := .ref 38) hG dX10_put_45 (by decide) rfl fl_RX10_79 rfl ?_
        refine gg_iload_n hG dX10_put_48 rfl rfl ?_
        obtain ⟨h11, h⟩ := h
        refine gg_aald (j := a1.toNatClampNeg) (r := (gg_rf 38 a1.toNatClampNeg)) hG dX10_put_49 (by decide) (Or.inl rfl) h11 rfl rfl ?_
        refine gg_iload_n hG dX10_put_50 rfl rfl ?_
        refine gg_iload hG dX10_put_51 rfl ?_
        refine gg_xv (As := [.int a3, .int a4]) (st := []) hG dX10_put_53 ml_RX10_262 Y_X6_keep YV_X6_keep (gg_kd_lt (gg_rf38 h11) (by decide)) (gg_rcv (gg_rf38 h11) rfl) (mt_X6_keep (gg_rf38 h11) h) rfl (by decide) (Nat.le_of_ble_eq_true rfl) rfl (gg_kv (fun u12 h => ?_))
        refine gg_iconst (v := 1) hG dX10_put_56 (by decide) ?_
        exact gg_iret hG dX10_put_57 rfl rfl ⟨_, rfl, h⟩
      · replace h := h.2 c10
        refine gg_aload_n hG dX10_put_37 rfl rfl ?_
        refine gg_iload hG dX10_put_38 rfl ?_
        refine gg_xv (As := [.int v9]) (st := []) hG dX10_put_40 ml_RX10_125 Y_X10_found YV_X10_found (by decide) ⟨_, rfl, rfl⟩ (mt_X10_found h) rfl (by decide) (Nat.le_of_ble_eq_true rfl) rfl (gg_ki (fun v14 u13 h => ?_))
        exact gg_iret hG dX10_put_43 rfl rfl ⟨_, rfl, h⟩
    · replace h := h.2 c6
      refine gg_mk hG [false, false, false, false, false, false] rfl ?_
      exact m_X10_put_c16 hG h
theorem mt_X10_put {a1 : Int32} {a2 : Int32} {a3 : Int32} {a4 : Int32}  {u : gg_M} {Q : Int32 → gg_M → Prop} (h : w_X10_put a1 a2 a3 a4 u Q) : gg_Mt 3 yX10_put cX10_put 6 (some .int) [.ref 0, .int a1, .int a2, .int a3, .int a4] u (gg_eI Q) :=
  gg_intro (own := RX10) (by decide +kernel) rfl rfl (Nat.le_of_ble_eq_true rfl) (fun G hG => m_X10_put hG  h)
/-! X10_get -/
def w_X10_get_c16  (u : gg_M)  (Q : Int32 → gg_M → Prop) : Prop :=
  Q (-2147483648) u
set_option maxRecDepth 10000 in
theorem m_X10_get_c16  {u : gg_M}  {G : gg_T} {Q : Int32 → gg_M → Prop} (hG : gg_Cl none cX10_get 5 RX10 (some .int) 3 (gg_eI Q) G)  (h : w_X10_get_c16  u  Q)   : G 16 [none, none, none, none, none] [] u := by
  unfold w_X10_get_c16 at h
  refine gg_ldcw hG dX10_get_16 fc_RX10_265 ?_
  exact gg_iret hG dX10_get_19 rfl rfl ⟨_, rfl, h⟩
def w_X10_get (a1 : Int32) (a2 : Int32) (a3 : Int32) (u : gg_M)  (Q : Int32 → gg_M → Prop) : Prop :=
  w_X10_isBelow a1 4 u (fun v2 u1 =>
  (v2 = 0 →
   w_X10_get_c16 u1 Q) ∧
  (¬ v2 = 0 →
   w_X10_isBelow a2 3 u1 (fun v5 u4 =>
   (¬ v5 = 0 →
    vp_in a1 4 ∧
    w_X6_wrongWith (gg_rf 38 a1.toNatClampNeg) a2 a3 u4 (fun v9 u8 =>
    (v9 = 0 →
     vp_in a1 4 ∧
     w_X6_itemAt (gg_rf 38 a1.toNatClampNeg) a3 u8 (fun v13 u12 =>
     Q v13 u12)) ∧
    (¬ v9 = 0 →
     ∀ u14 : gg_M, u14 = gg_wI u8 0 11 v9 →
     Q (-2147483648) u14))) ∧
   (v5 = 0 →
    w_X10_get_c16 u4 Q))))
set_option maxRecDepth 10000 in
theorem m_X10_get {a1 : Int32} {a2 : Int32} {a3 : Int32} {u : gg_M}  {G : gg_T} {Q : Int32 → gg_M → Prop} (hG : gg_Cl none cX10_get 5 RX10 (some .int) 3 (gg_eI Q) G)  (h : w_X10_get a1 a2 a3 u  Q)   : G 0 [some (.ref 0), some (.int a1), some (.int a2), some (.int a3), none] [] u := by
  unfold w_X10_get at h
  refine gg_iload_n hG dX10_get_0 rfl rfl ?_
  refine gg_iconst (v := 4) hG dX10_get_1 (by decide) ?_
  refine gg_xs (As := [.int a1, .int 4]) (st := []) hG dX10_get_2 ml_RX10_84 Y_X10_isBelow YS_X10_isBelow (mt_X10_isBelow h) rfl (by decide) (Nat.le_of_ble_eq_true rfl) rfl (gg_ki (fun v2 u1 h => ?_))
  refine gg_if_eq (tgt := 16) hG dX10_get_5 (by decide) (fun c3 => ?_) (fun c3 => ?_)
  · replace h := h.1 c3
    refine gg_mk hG [false, false, false, false, false] rfl ?_
    exact m_X10_get_c16 hG h
  · replace h := h.2 c3
    refine gg_iload_n hG dX10_get_8 rfl rfl ?_
    refine gg_iconst (v := 3) hG dX10_get_9 (by decide) ?_
    refine gg_xs (As := [.int a2, .int 3]) (st := []) hG dX10_get_10 ml_RX10_84 Y_X10_isBelow YS_X10_isBelow (mt_X10_isBelow h) rfl (by decide) (Nat.le_of_ble_eq_true rfl) rfl (gg_ki (fun v5 u4 h => ?_))
    refine gg_if_ne (tgt := 20) hG dX10_get_13 (by decide) (fun c6 => ?_) (fun c6 => ?_)
    · replace h := h.1 c6
      refine gg_aload_n hG dX10_get_20 rfl rfl ?_
      refine gg_get (v := .ref 38) hG dX10_get_21 (by decide) rfl fl_RX10_79 rfl ?_
      refine gg_iload_n hG dX10_get_24 rfl rfl ?_
      obtain ⟨h7, h⟩ := h
      refine gg_aald (j := a1.toNatClampNeg) (r := (gg_rf 38 a1.toNatClampNeg)) hG dX10_get_25 (by decide) (Or.inl rfl) h7 rfl rfl ?_
      refine gg_iload_n hG dX10_get_26 rfl rfl ?_
      refine gg_iload_n hG dX10_get_27 rfl rfl ?_
      refine gg_xv (As := [.int a2, .int a3]) (st := []) hG dX10_get_28 ml_RX10_259 Y_X6_wrongWith YV_X6_wrongWith (gg_kd_lt (gg_rf38 h7) (by decide)) (gg_rcv (gg_rf38 h7) rfl) (mt_X6_wrongWith (gg_rf38 h7) h) rfl (by decide) (Nat.le_of_ble_eq_true rfl) rfl (gg_ki (fun v9 u8 h => ?_))
      refine gg_istore (L1 := [some (.ref 0), some (.int a1), some (.int a2), some (.int a3), some (.int v9)]) hG dX10_get_31 (by decide) rfl ?_
      refine gg_iload hG dX10_get_33 rfl ?_
      refine gg_if_eq (tgt := 48) hG dX10_get_35 (by decide) (fun c10 => ?_) (fun c10 => ?_)
      · replace h := h.1 c10
        refine gg_aload_n hG dX10_get_48 rfl rfl ?_
        refine gg_get (v := .ref 38) hG dX10_get_49 (by decide) rfl fl_RX10_79 rfl ?_
        refine gg_iload_n hG dX10_get_52 rfl rfl ?_
        obtain ⟨h11, h⟩ := h
        refine gg_aald (j := a1.toNatClampNeg) (r := (gg_rf 38 a1.toNatClampNeg)) hG dX10_get_53 (by decide) (Or.inl rfl) h11 rfl rfl ?_
        refine gg_iload_n hG dX10_get_54 rfl rfl ?_
        refine gg_xv (As := [.int a3]) (st := []) hG dX10_get_55 ml_RX10_130 Y_X6_itemAt YV_X6_itemAt (gg_kd_lt (gg_rf38 h11) (by decide)) (gg_rcv (gg_rf38 h11) rfl) (mt_X6_itemAt (gg_rf38 h11) h) rfl (by decide) (Nat.le_of_ble_eq_true rfl) rfl (gg_ki (fun v13 u12 h => ?_))
        exact gg_iret hG dX10_get_58 rfl rfl ⟨_, rfl, h⟩
      · replace h := h.2 c10
        refine gg_aload_n hG dX10_get_38 rfl rfl ?_
        refine gg_iload hG dX10_get_39 rfl ?_
        refine gg_putI hG dX10_get_41 (by decide) rfl fp_RX10_266 rfl rfl rfl ?_
        refine gg_nu (fun u14 eu14 => ?_)
        replace h := h u14 eu14
        refine gg_ldcw hG dX10_get_44 fc_RX10_265 ?_
        exact gg_iret hG dX10_get_47 rfl rfl ⟨_, rfl, h⟩
    · replace h := h.2 c6
      refine gg_mk hG [false, false, false, false, false] rfl ?_
      exact m_X10_get_c16 hG h
theorem mt_X10_get {a1 : Int32} {a2 : Int32} {a3 : Int32}  {u : gg_M} {Q : Int32 → gg_M → Prop} (h : w_X10_get a1 a2 a3 u Q) : gg_Mt 3 yX10_get cX10_get 5 (some .int) [.ref 0, .int a1, .int a2, .int a3] u (gg_eI Q) :=
  gg_intro (own := RX10) (by decide +kernel) rfl rfl (Nat.le_of_ble_eq_true rfl) (fun G hG => m_X10_get hG  h)
/-! X10_copy -/
def w_X10_copy_c99  (u : gg_M)  (Q : Int32 → gg_M → Prop) : Prop :=
  w_X10_found 2 u (fun v2 u1 =>
  Q v2 u1)
set_option maxRecDepth 10000 in
theorem m_X10_copy_c99  {u : gg_M}  {G : gg_T} {Q : Int32 → gg_M → Prop} (hG : gg_Cl none cX10_copy 8 RX10 (some .int) 2 (gg_eI Q) G)  (h : w_X10_copy_c99  u  Q)   : G 99 [some (.ref 0), none, none, none, none, none, none, none] [] u := by
  unfold w_X10_copy_c99 at h
  refine gg_aload_n hG dX10_copy_99 rfl rfl ?_
  refine gg_iconst (v := 2) hG dX10_copy_100 (by decide) ?_
  refine gg_xv (As := [.int 2]) (st := []) hG dX10_copy_101 ml_RX10_125 Y_X10_found YV_X10_found (by decide) ⟨_, rfl, rfl⟩ (mt_X10_found h) rfl (by decide) (Nat.le_of_ble_eq_true rfl) rfl (gg_ki (fun v2 u1 h => ?_))
  exact gg_iret hG dX10_copy_104 rfl rfl ⟨_, rfl, h⟩
def w_X10_copy_c51  (u : gg_M)  (Q : Int32 → gg_M → Prop) : Prop :=
  w_X10_found 1 u (fun v4 u3 =>
  Q v4 u3)
set_option maxRecDepth 10000 in
theorem m_X10_copy_c51  {u : gg_M}  {G : gg_T} {Q : Int32 → gg_M → Prop} (hG : gg_Cl none cX10_copy 8 RX10 (some .int) 2 (gg_eI Q) G)  (h : w_X10_copy_c51  u  Q)   : G 51 [some (.ref 0), none, none, none, none, none, none, none] [] u := by
  unfold w_X10_copy_c51 at h
  refine gg_aload_n hG dX10_copy_51 rfl rfl ?_
  refine gg_iconst (v := 1) hG dX10_copy_52 (by decide) ?_
  refine gg_xv (As := [.int 1]) (st := []) hG dX10_copy_53 ml_RX10_125 Y_X10_found YV_X10_found (by decide) ⟨_, rfl, rfl⟩ (mt_X10_found h) rfl (by decide) (Nat.le_of_ble_eq_true rfl) rfl (gg_ki (fun v4 u3 h => ?_))
  exact gg_iret hG dX10_copy_56 rfl rfl ⟨_, rfl, h⟩
def w_X10_copy_c16  (u : gg_M)  (Q : Int32 → gg_M → Prop) : Prop :=
  Q (-2) u
set_option maxRecDepth 10000 in
theorem m_X10_copy_c16  {u : gg_M}  {G : gg_T} {Q : Int32 → gg_M → Prop} (hG : gg_Cl none cX10_copy 8 RX10 (some .int) 2 (gg_eI Q) G)  (h : w_X10_copy_c16  u  Q)   : G 16 [none, none, none, none, none, none, none, none] [] u := by
  unfold w_X10_copy_c16 at h
  refine gg_bipush (v := (-2)) hG dX10_copy_16 (by decide) ?_
  exact gg_iret hG dX10_copy_18 rfl rfl ⟨_, rfl, h⟩
def w_X10_copy (a1 : Int32) (a2 : Int32) (a3 : Int32) (a4 : Int32) (a5 : Int32) (u : gg_M)  (Q : Int32 → gg_M → Prop) : Prop :=
  w_X10_isBelow a1 4 u (fun v6 u5 =>
  (v6 = 0 →
   w_X10_copy_c16 u5 Q) ∧
  (¬ v6 = 0 →
   w_X10_isBelow a3 4 u5 (fun v9 u8 =>
   (¬ v9 = 0 →
    vp_in a1 4 ∧
    vp_in a3 4 ∧
    w_X6_isLost (gg_rf 38 a1.toNatClampNeg) u8 (fun v14 u13 =>
    (¬ v14 = 0 →
     w_X10_copy_c51 u13 Q) ∧
    (v14 = 0 →
     w_X6_isLost (gg_rf 38 a3.toNatClampNeg) u13 (fun v17 u16 =>
     (v17 = 0 →
      ((u16.1 (gg_rf 38 a1.toNatClampNeg) 1) = (u16.1 (gg_rf 38 a3.toNatClampNeg) 1) →
       w_X6_holds (gg_rf 38 a1.toNatClampNeg) a2 a5 u16 (fun v21 u20 =>
       (v21 = 0 →
        w_X10_copy_c99 u20 Q) ∧
       (¬ v21 = 0 →
        w_X6_holds (gg_rf 38 a3.toNatClampNeg) a4 a5 u20 (fun v24 u23 =>
        (¬ v24 = 0 →
         ¬ a2 < 0 ∧
         ¬ a4 < 0 ∧
         ¬ a5 < 0 ∧
         a2.toNatClampNeg + a5.toNatClampNeg ≤ gg_al (gg_rf (gg_rf 38 a1.toNatClampNeg) 0) ∧
         a4.toNatClampNeg + a5.toNatClampNeg ≤ gg_al (gg_rf (gg_rf 38 a3.toNatClampNeg) 0) ∧
         ∀ u31 : gg_M, u31 = gg_wA u23 (gg_rf (gg_rf 38 a3.toNatClampNeg) 0) (va_cpy (u23.1 (gg_rf (gg_rf 38 a1.toNatClampNeg) 0)) (u23.1 (gg_rf (gg_rf 38 a3.toNatClampNeg) 0)) a2.toNatClampNeg a4.toNatClampNeg a5.toNatClampNeg) →
         Q 1 u31) ∧
        (v24 = 0 →
         w_X10_copy_c99 u23 Q))))) ∧
      (¬ (u16.1 (gg_rf 38 a1.toNatClampNeg) 1) = (u16.1 (gg_rf 38 a3.toNatClampNeg) 1) →
       w_X10_found 4 u16 (fun v33 u32 =>
       Q v33 u32))) ∧
     (¬ v17 = 0 →
      w_X10_copy_c51 u16 Q))))) ∧
   (v9 = 0 →
    w_X10_copy_c16 u8 Q))))
set_option maxRecDepth 10000 in
theorem m_X10_copy {a1 : Int32} {a2 : Int32} {a3 : Int32} {a4 : Int32} {a5 : Int32} {u : gg_M}  {G : gg_T} {Q : Int32 → gg_M → Prop} (hG : gg_Cl none cX10_copy 8 RX10 (some .int) 2 (gg_eI Q) G)  (h : w_X10_copy a1 a2 a3 a4 a5 u  Q)   : G 0 [some (.ref 0), some (.int a1), some (.int a2), some (.int a3), some (.int a4), some (.int a5), none, none] [] u := by
  unfold w_X10_copy at h
  refine gg_iload_n hG dX10_copy_0 rfl rfl ?_
  refine gg_iconst (v := 4) hG dX10_copy_1 (by decide) ?_
  refine gg_xs (As := [.int a1, .int 4]) (st := []) hG dX10_copy_2 ml_RX10_84 Y_X10_isBelow YS_X10_isBelow (mt_X10_isBelow h) rfl (by decide) (Nat.le_of_ble_eq_true rfl) rfl (gg_ki (fun v6 u5 h => ?_))
  refine gg_if_eq (tgt := 16) hG dX10_copy_5 (by decide) (fun c7 => ?_) (fun c7 => ?_)
  · replace h := h.1 c7
    refine gg_mk hG [false, false, false, false, false, false, false, false] rfl ?_
    exact m_X10_copy_c16 hG h
  · replace h := h.2 c7
    refine gg_iload_n hG dX10_copy_8 rfl rfl ?_
    refine gg_iconst (v := 4) hG dX10_copy_9 (by decide) ?_
    refine gg_xs (As := [.int a3, .int 4]) (st := []) hG dX10_copy_10 ml_RX10_84 Y_X10_isBelow YS_X10_isBelow (mt_X10_isBelow h) rfl (by decide) (Nat.le_of_ble_eq_true rfl) rfl (gg_ki (fun v9 u8 h => ?_))
    refine gg_if_ne (tgt := 19) hG dX10_copy_13 (by decide) (fun c10 => ?_) (fun c10 => ?_)
    · replace h := h.1 c10
      refine gg_aload_n hG dX10_copy_19 rfl rfl ?_
      refine gg_get (v := .ref 38) hG dX10_copy_20 (by decide) rfl fl_RX10_79 rfl ?_
      refine gg_iload_n hG dX10_copy_23 rfl rfl ?_
      obtain ⟨h11, h⟩ := h
      refine gg_aald (j := a1.toNatClampNeg) (r := (gg_rf 38 a1.toNatClampNeg)) hG dX10_copy_24 (by decide) (Or.inl rfl) h11 rfl rfl ?_
      refine gg_astore (L1 := [some (.ref 0), some (.int a1), some (.int a2), some (.int a3), some (.int a4), some (.int a5), some (.ref (gg_rf 38 a1.toNatClampNeg)), none]) hG dX10_copy_25 (by decide) rfl ?_
      refine gg_aload_n hG dX10_copy_27 rfl rfl ?_
      refine gg_get (v := .ref 38) hG dX10_copy_28 (by decide) rfl fl_RX10_79 rfl ?_
      refine gg_iload_n hG dX10_copy_31 rfl rfl ?_
      obtain ⟨h12, h⟩ := h
      refine gg_aald (j := a3.toNatClampNeg) (r := (gg_rf 38 a3.toNatClampNeg)) hG dX10_copy_32 (by decide) (Or.inl rfl) h12 rfl rfl ?_
      refine gg_astore (L1 := [some (.ref 0), some (.int a1), some (.int a2), some (.int a3), some (.int a4), some (.int a5), some (.ref (gg_rf 38 a1.toNatClampNeg)), some (.ref (gg_rf 38 a3.toNatClampNeg))]) hG dX10_copy_33 (by decide) rfl ?_
      refine gg_aload hG dX10_copy_35 rfl ?_
      refine gg_xv (As := []) (st := []) hG dX10_copy_37 ml_RX10_121 Y_X6_isLost YV_X6_isLost (gg_kd_lt (gg_rf38 h11) (by decide)) (gg_rcv (gg_rf38 h11) rfl) (mt_X6_isLost (gg_rf38 h11) h) rfl (by decide) (Nat.le_of_ble_eq_true rfl) rfl (gg_ki (fun v14 u13 h => ?_))
      refine gg_if_ne (tgt := 51) hG dX10_copy_40 (by decide) (fun c15 => ?_) (fun c15 => ?_)
      · replace h := h.1 c15
        refine gg_mk hG [true, false, false, false, false, false, false, false] rfl ?_
        exact m_X10_copy_c51 hG h
      · replace h := h.2 c15
        refine gg_aload hG dX10_copy_43 rfl ?_
        refine gg_xv (As := []) (st := []) hG dX10_copy_45 ml_RX10_121 Y_X6_isLost YV_X6_isLost (gg_kd_lt (gg_rf38 h12) (by decide)) (gg_rcv (gg_rf38 h12) rfl) (mt_X6_isLost (gg_rf38 h12) h) rfl (by decide) (Nat.le_of_ble_eq_true rfl) rfl (gg_ki (fun v17 u16 h => ?_))
        refine gg_if_eq (tgt := 57) hG dX10_copy_48 (by decide) (fun c18 => ?_) (fun c18 => ?_)
        · replace h := h.1 c18
          refine gg_aload hG dX10_copy_57 rfl ?_
          refine gg_get (v := .int (u16.1 (gg_rf 38 a1.toNatClampNeg) 1)) hG dX10_copy_59 (gg_kd_lt (gg_rf38 h11) (by decide)) (gg_rf38 h11) fl_RX10_269 (gg_fvI (gg_rf38 h11) rfl) ?_
          refine gg_aload hG dX10_copy_62 rfl ?_
          refine gg_get (v := .int (u16.1 (gg_rf 38 a3.toNatClampNeg) 1)) hG dX10_copy_64 (gg_kd_lt (gg_rf38 h12) (by decide)) (gg_rf38 h12) fl_RX10_269 (gg_fvI (gg_rf38 h12) rfl) ?_
          refine gg_ic_eq (tgt := 76) hG dX10_copy_67 (by decide) (fun c19 => ?_) (fun c19 => ?_)
          · replace h := h.1 c19
            refine gg_aload hG dX10_copy_76 rfl ?_
            refine gg_iload_n hG dX10_copy_78 rfl rfl ?_
            refine gg_iload hG dX10_copy_79 rfl ?_
            refine gg_xv (As := [.int a2, .int a5]) (st := []) hG dX10_copy_81 ml_RX10_272 Y_X6_holds YV_X6_holds (gg_kd_lt (gg_rf38 h11) (by decide)) (gg_rcv (gg_rf38 h11) rfl) (mt_X6_holds (gg_rf38 h11) h) rfl (by decide) (Nat.le_of_ble_eq_true rfl) rfl (gg_ki (fun v21 u20 h => ?_))
            refine gg_if_eq (tgt := 99) hG dX10_copy_84 (by decide) (fun c22 => ?_) (fun c22 => ?_)
            · replace h := h.1 c22
              refine gg_mk hG [true, false, false, false, false, false, false, false] rfl ?_
              exact m_X10_copy_c99 hG h
            · replace h := h.2 c22
              refine gg_aload hG dX10_copy_87 rfl ?_
              refine gg_iload hG dX10_copy_89 rfl ?_
              refine gg_iload hG dX10_copy_91 rfl ?_
              refine gg_xv (As := [.int a4, .int a5]) (st := []) hG dX10_copy_93 ml_RX10_272 Y_X6_holds YV_X6_holds (gg_kd_lt (gg_rf38 h12) (by decide)) (gg_rcv (gg_rf38 h12) rfl) (mt_X6_holds (gg_rf38 h12) h) rfl (by decide) (Nat.le_of_ble_eq_true rfl) rfl (gg_ki (fun v24 u23 h => ?_))
              refine gg_if_ne (tgt := 105) hG dX10_copy_96 (by decide) (fun c25 => ?_) (fun c25 => ?_)
              · replace h := h.1 c25
                refine gg_aload hG dX10_copy_105 rfl ?_
                refine gg_get (v := .ref (gg_rf (gg_rf 38 a1.toNatClampNeg) 0)) hG dX10_copy_107 (gg_kd_lt (gg_rf38 h11) (by decide)) (gg_rf38 h11) fl_RX10_275 (gg_fvR (gg_rf38 h11) rfl) ?_
                refine gg_iload_n hG dX10_copy_110 rfl rfl ?_
                refine gg_aload hG dX10_copy_111 rfl ?_
                refine gg_get (v := .ref (gg_rf (gg_rf 38 a3.toNatClampNeg) 0)) hG dX10_copy_113 (gg_kd_lt (gg_rf38 h12) (by decide)) (gg_rf38 h12) fl_RX10_275 (gg_fvR (gg_rf38 h12) rfl) ?_
                refine gg_iload hG dX10_copy_116 rfl ?_
                refine gg_iload hG dX10_copy_118 rfl ?_
                obtain ⟨h26, h⟩ := h
                obtain ⟨h27, h⟩ := h
                obtain ⟨h28, h⟩ := h
                obtain ⟨h29, h⟩ := h
                obtain ⟨h30, h⟩ := h
                refine gg_copy hG dX10_copy_120 (gg_kd_lt (gg_rf6 (gg_rf38 h11)) (by decide)) (gg_kd_lt (gg_rf6 (gg_rf38 h12)) (by decide)) (gg_rf6 (gg_rf38 h11)) (gg_rf6 (gg_rf38 h12)) ml_copy ml_cnat ml_cstat ml_cini h26 h27 h28 h29 h30 (by decide) rfl ?_
                refine gg_nu (fun u31 eu31 => ?_)
                replace h := h u31 eu31
                refine gg_iconst (v := 1) hG dX10_copy_123 (by decide) ?_
                exact gg_iret hG dX10_copy_124 rfl rfl ⟨_, rfl, h⟩
              · replace h := h.2 c25
                refine gg_mk hG [true, false, false, false, false, false, false, false] rfl ?_
                exact m_X10_copy_c99 hG h
          · replace h := h.2 c19
            refine gg_aload_n hG dX10_copy_70 rfl rfl ?_
            refine gg_iconst (v := 4) hG dX10_copy_71 (by decide) ?_
            refine gg_xv (As := [.int 4]) (st := []) hG dX10_copy_72 ml_RX10_125 Y_X10_found YV_X10_found (by decide) ⟨_, rfl, rfl⟩ (mt_X10_found h) rfl (by decide) (Nat.le_of_ble_eq_true rfl) rfl (gg_ki (fun v33 u32 h => ?_))
            exact gg_iret hG dX10_copy_75 rfl rfl ⟨_, rfl, h⟩
        · replace h := h.2 c18
          refine gg_mk hG [true, false, false, false, false, false, false, false] rfl ?_
          exact m_X10_copy_c51 hG h
    · replace h := h.2 c10
      refine gg_mk hG [false, false, false, false, false, false, false, false] rfl ?_
      exact m_X10_copy_c16 hG h
theorem mt_X10_copy {a1 : Int32} {a2 : Int32} {a3 : Int32} {a4 : Int32} {a5 : Int32}  {u : gg_M} {Q : Int32 → gg_M → Prop} (h : w_X10_copy a1 a2 a3 a4 a5 u Q) : gg_Mt 2 yX10_copy cX10_copy 8 (some .int) [.ref 0, .int a1, .int a2, .int a3, .int a4, .int a5] u (gg_eI Q) :=
  gg_intro (own := RX10) (by decide +kernel) rfl rfl (Nat.le_of_ble_eq_true rfl) (fun G hG => m_X10_copy hG  h)
/-! X10_write -/
def b_X10_write_c71 (t3 : Nat) (a4 : Int32) (a5 : Int32) (u : gg_M)  (k71 : Int32 × gg_M → Prop) (Q : Int32 → gg_M → Prop) : Prop :=
  (a4 ≤ a5 →
   Q a4 u) ∧
  (¬ a4 ≤ a5 →
   w_X2_actAt a5 u (fun v3 u2 =>
   w_X7_does 30 v3 u2 (fun v5 u4 =>
   w_X6_keep t3 a5 v5 u4 (fun u6 =>
   k71 ((a5 + 1), u6)))))
set_option maxRecDepth 10000 in
theorem mb_X10_write_c71 {t3 : Nat} {a4 : Int32} {a5 : Int32} {u : gg_M}  {k71 : Int32 × gg_M → Prop} {G : gg_T} {Q : Int32 → gg_M → Prop} (hG : gg_Cl none cX10_write 6 RX10 (some .int) 4 (gg_eI Q) G) (kt3 : gg_kd t3 = 6) (h : b_X10_write_c71 t3 a4 a5 u k71 Q)   (hk71 : ∀ s : Int32 × gg_M, k71 s → G 71 [some (.ref 0), none, none, some (.ref t3), some (.int a4), some (.int s.1)] [] s.2) : G 71 [some (.ref 0), none, none, some (.ref t3), some (.int a4), some (.int a5)] [] u := by
  unfold b_X10_write_c71 at h
  refine gg_iload hG dX10_write_71 rfl ?_
  refine gg_iload hG dX10_write_73 rfl ?_
  refine gg_ic_ge (tgt := 110) hG dX10_write_75 (by decide) (fun c1 => ?_) (fun c1 => ?_)
  · replace h := h.1 c1
    refine gg_iload hG dX10_write_110 rfl ?_
    exact gg_iret hG dX10_write_112 rfl rfl ⟨_, rfl, h⟩
  · replace h := h.2 c1
    refine gg_aload_n hG dX10_write_78 rfl rfl ?_
    refine gg_iload hG dX10_write_79 rfl ?_
    refine gg_aload_n hG dX10_write_81 rfl rfl ?_
    refine gg_get (v := .ref 30) hG dX10_write_82 (by decide) rfl fl_RX10_66 rfl ?_
    refine gg_aload_n hG dX10_write_85 rfl rfl ?_
    refine gg_get (v := .ref 6) hG dX10_write_86 (by decide) rfl fl_RX10_24 rfl ?_
    refine gg_aload_n hG dX10_write_89 rfl rfl ?_
    refine gg_get (v := .ref 12) hG dX10_write_90 (by decide) rfl fl_RX10_45 rfl ?_
    refine gg_iload hG dX10_write_93 rfl ?_
    refine gg_xv (As := [.int a5]) (st := [.ref 6, .ref 30, .int a5, .ref t3]) hG dX10_write_95 ml_RX10_293 Y_X2_actAt YV_X2_actAt (by decide) ⟨_, rfl, rfl⟩ (mt_X2_actAt h) rfl (by decide) (Nat.le_of_ble_eq_true rfl) rfl (gg_ki (fun v3 u2 h => ?_))
    refine gg_xv (As := [.ref 6, .int v3]) (st := [.int a5, .ref t3]) hG dX10_write_98 ml_RX10_177 Y_X7_does YV_X7_does (by decide) ⟨_, rfl, rfl⟩ (mt_X7_does rfl h) rfl (by decide) (Nat.le_of_ble_eq_true rfl) rfl (gg_ki (fun v5 u4 h => ?_))
    refine gg_xv (As := [.int a5, .int v5]) (st := []) hG dX10_write_101 ml_RX10_262 Y_X6_keep YV_X6_keep (gg_kd_lt kt3 (by decide)) (gg_rcv kt3 rfl) (mt_X6_keep kt3 h) rfl (by decide) (Nat.le_of_ble_eq_true rfl) rfl (gg_kv (fun u6 h => ?_))
    refine gg_iinc (v := (a5 + 1)) (L1 := [some (.ref 0), none, none, some (.ref t3), some (.int a4), some (.int (a5 + 1))]) hG dX10_write_104 rfl rfl (by decide) rfl ?_
    refine gg_goto (tgt := 71) hG dX10_write_107 (by decide) ?_
    exact hk71 _ h
def w_X10_write_c71 (t3 : Nat) (a4 : Int32) (a5 : Int32) (u : gg_M)  (Q : Int32 → gg_M → Prop) : Prop :=
  gg_loop (fun (s : Int32 × gg_M) k71 => b_X10_write_c71 t3 a4 s.1 s.2  k71 Q) (a5, u)
set_option maxRecDepth 10000 in
theorem m_X10_write_c71 {t3 : Nat} {a4 : Int32} {a5 : Int32} {u : gg_M}  {G : gg_T} {Q : Int32 → gg_M → Prop} (hG : gg_Cl none cX10_write 6 RX10 (some .int) 4 (gg_eI Q) G) (kt3 : gg_kd t3 = 6) (h : w_X10_write_c71 t3 a4 a5 u  Q)   : G 71 [some (.ref 0), none, none, some (.ref t3), some (.int a4), some (.int a5)] [] u :=
  gg_loop_use (P := fun s : Int32 × gg_M => G 71 [some (.ref 0), none, none, some (.ref t3), some (.int a4), some (.int s.1)] [] s.2) h (fun s rc hb hr => mb_X10_write_c71 hG kt3 hb   hr)
def w_X10_write_c17  (u : gg_M)  (Q : Int32 → gg_M → Prop) : Prop :=
  Q (-2) u
set_option maxRecDepth 10000 in
theorem m_X10_write_c17  {u : gg_M}  {G : gg_T} {Q : Int32 → gg_M → Prop} (hG : gg_Cl none cX10_write 6 RX10 (some .int) 4 (gg_eI Q) G)  (h : w_X10_write_c17  u  Q)   : G 17 [none, none, none, none, none, none] [] u := by
  unfold w_X10_write_c17 at h
  refine gg_bipush (v := (-2)) hG dX10_write_17 (by decide) ?_
  exact gg_iret hG dX10_write_19 rfl rfl ⟨_, rfl, h⟩
def w_X10_write (a1 : Int32) (a2 : Int32) (u : gg_M)  (Q : Int32 → gg_M → Prop) : Prop :=
  w_X10_isBelow a1 32 u (fun v8 u7 =>
  (v8 = 0 →
   w_X10_write_c17 u7 Q) ∧
  (¬ v8 = 0 →
   w_X10_isBelow a2 4 u7 (fun v11 u10 =>
   (¬ v11 = 0 →
    vp_in a2 4 ∧
    w_X6_isLost (gg_rf 38 a2.toNatClampNeg) u10 (fun v15 u14 =>
    (v15 = 0 →
     w_J9_min_7cf53 (u14.1 (gg_rf 38 a2.toNatClampNeg) 2) (u14.1 12 2) u14 (fun v18 u17 =>
     w_X7_begin 30 a1 u17 (fun u19 =>
     w_X10_write_c71 (gg_rf 38 a2.toNatClampNeg) v18 0 u19 Q))) ∧
    (¬ v15 = 0 →
     w_X10_found 1 u14 (fun v21 u20 =>
     Q v21 u20)))) ∧
   (v11 = 0 →
    w_X10_write_c17 u10 Q))))
set_option maxRecDepth 10000 in
theorem m_X10_write {a1 : Int32} {a2 : Int32} {u : gg_M}  {G : gg_T} {Q : Int32 → gg_M → Prop} (hG : gg_Cl none cX10_write 6 RX10 (some .int) 4 (gg_eI Q) G)  (h : w_X10_write a1 a2 u  Q)   : G 0 [some (.ref 0), some (.int a1), some (.int a2), none, none, none] [] u := by
  unfold w_X10_write at h
  refine gg_iload_n hG dX10_write_0 rfl rfl ?_
  refine gg_bipush (v := 32) hG dX10_write_1 (by decide) ?_
  refine gg_xs (As := [.int a1, .int 32]) (st := []) hG dX10_write_3 ml_RX10_84 Y_X10_isBelow YS_X10_isBelow (mt_X10_isBelow h) rfl (by decide) (Nat.le_of_ble_eq_true rfl) rfl (gg_ki (fun v8 u7 h => ?_))
  refine gg_if_eq (tgt := 17) hG dX10_write_6 (by decide) (fun c9 => ?_) (fun c9 => ?_)
  · replace h := h.1 c9
    refine gg_mk hG [false, false, false, false, false, false] rfl ?_
    exact m_X10_write_c17 hG h
  · replace h := h.2 c9
    refine gg_iload_n hG dX10_write_9 rfl rfl ?_
    refine gg_iconst (v := 4) hG dX10_write_10 (by decide) ?_
    refine gg_xs (As := [.int a2, .int 4]) (st := []) hG dX10_write_11 ml_RX10_84 Y_X10_isBelow YS_X10_isBelow (mt_X10_isBelow h) rfl (by decide) (Nat.le_of_ble_eq_true rfl) rfl (gg_ki (fun v11 u10 h => ?_))
    refine gg_if_ne (tgt := 20) hG dX10_write_14 (by decide) (fun c12 => ?_) (fun c12 => ?_)
    · replace h := h.1 c12
      refine gg_aload_n hG dX10_write_20 rfl rfl ?_
      refine gg_get (v := .ref 38) hG dX10_write_21 (by decide) rfl fl_RX10_79 rfl ?_
      refine gg_iload_n hG dX10_write_24 rfl rfl ?_
      obtain ⟨h13, h⟩ := h
      refine gg_aald (j := a2.toNatClampNeg) (r := (gg_rf 38 a2.toNatClampNeg)) hG dX10_write_25 (by decide) (Or.inl rfl) h13 rfl rfl ?_
      refine gg_astore_n (L1 := [some (.ref 0), some (.int a1), some (.int a2), some (.ref (gg_rf 38 a2.toNatClampNeg)), none, none]) hG dX10_write_26 rfl (by decide) rfl ?_
      refine gg_aload_n hG dX10_write_27 rfl rfl ?_
      refine gg_xv (As := []) (st := []) hG dX10_write_28 ml_RX10_121 Y_X6_isLost YV_X6_isLost (gg_kd_lt (gg_rf38 h13) (by decide)) (gg_rcv (gg_rf38 h13) rfl) (mt_X6_isLost (gg_rf38 h13) h) rfl (by decide) (Nat.le_of_ble_eq_true rfl) rfl (gg_ki (fun v15 u14 h => ?_))
      refine gg_if_eq (tgt := 40) hG dX10_write_31 (by decide) (fun c16 => ?_) (fun c16 => ?_)
      · replace h := h.1 c16
        refine gg_aload_n hG dX10_write_40 rfl rfl ?_
        refine gg_get (v := .int (u14.1 (gg_rf 38 a2.toNatClampNeg) 2)) hG dX10_write_41 (gg_kd_lt (gg_rf38 h13) (by decide)) (gg_rf38 h13) fl_RX10_129 (gg_fvI (gg_rf38 h13) rfl) ?_
        refine gg_aload_n hG dX10_write_44 rfl rfl ?_
        refine gg_get (v := .ref 12) hG dX10_write_45 (by decide) rfl fl_RX10_45 rfl ?_
        refine gg_get (v := .int (u14.1 12 2)) hG dX10_write_48 (by decide) rfl fl_RX10_120 rfl ?_
        refine gg_xs (As := [.int (u14.1 (gg_rf 38 a2.toNatClampNeg) 2), .int (u14.1 12 2)]) (st := []) hG dX10_write_51 ml_RX10_284 Y_J9_min_7cf53 YS_J9_min_7cf53 (mt_J9_min_7cf53 h) rfl (by decide) (Nat.le_of_ble_eq_true rfl) rfl (gg_ki (fun v18 u17 h => ?_))
        refine gg_istore (L1 := [some (.ref 0), some (.int a1), some (.int a2), some (.ref (gg_rf 38 a2.toNatClampNeg)), some (.int v18), none]) hG dX10_write_54 (by decide) rfl ?_
        refine gg_aload_n hG dX10_write_56 rfl rfl ?_
        refine gg_get (v := .ref 30) hG dX10_write_57 (by decide) rfl fl_RX10_66 rfl ?_
        refine gg_aload_n hG dX10_write_60 rfl rfl ?_
        refine gg_get (v := .ref 6) hG dX10_write_61 (by decide) rfl fl_RX10_24 rfl ?_
        refine gg_iload_n hG dX10_write_64 rfl rfl ?_
        refine gg_xv (As := [.ref 6, .int a1]) (st := []) hG dX10_write_65 ml_RX10_289 Y_X7_begin YV_X7_begin (by decide) ⟨_, rfl, rfl⟩ (mt_X7_begin rfl h) rfl (by decide) (Nat.le_of_ble_eq_true rfl) rfl (gg_kv (fun u19 h => ?_))
        refine gg_iconst (v := 0) hG dX10_write_68 (by decide) ?_
        refine gg_istore (L1 := [some (.ref 0), some (.int a1), some (.int a2), some (.ref (gg_rf 38 a2.toNatClampNeg)), some (.int v18), some (.int 0)]) hG dX10_write_69 (by decide) rfl ?_
        refine gg_mk hG [true, false, false, true, true, true] rfl ?_
        exact m_X10_write_c71 hG (gg_rf38 h13) h
      · replace h := h.2 c16
        refine gg_aload_n hG dX10_write_34 rfl rfl ?_
        refine gg_iconst (v := 1) hG dX10_write_35 (by decide) ?_
        refine gg_xv (As := [.int 1]) (st := []) hG dX10_write_36 ml_RX10_125 Y_X10_found YV_X10_found (by decide) ⟨_, rfl, rfl⟩ (mt_X10_found h) rfl (by decide) (Nat.le_of_ble_eq_true rfl) rfl (gg_ki (fun v21 u20 h => ?_))
        exact gg_iret hG dX10_write_39 rfl rfl ⟨_, rfl, h⟩
    · replace h := h.2 c12
      refine gg_mk hG [false, false, false, false, false, false] rfl ?_
      exact m_X10_write_c17 hG h
theorem mt_X10_write {a1 : Int32} {a2 : Int32}  {u : gg_M} {Q : Int32 → gg_M → Prop} (h : w_X10_write a1 a2 u Q) : gg_Mt 4 yX10_write cX10_write 6 (some .int) [.ref 0, .int a1, .int a2] u (gg_eI Q) :=
  gg_intro (own := RX10) (by decide +kernel) rfl rfl (Nat.le_of_ble_eq_true rfl) (fun G hG => m_X10_write hG  h)
/-! X10_count -/
def w_X10_count (a1 : Int32) (u : gg_M)  (Q : Int32 → gg_M → Prop) : Prop :=
  (a1 = 0 →
   Q (u.1 2 1) u) ∧
  (a1 = 1 →
   Q (u.1 3 1) u) ∧
  (a1 = 2 →
   Q (u.1 12 2) u) ∧
  (a1 = 3 →
   w_X10_known u (fun v6 u5 =>
   v6 = 15 ∧
   w_J6_bitCount_0f7a4 (u5.1 15 9) u5 (fun v8 u7 =>
   Q v8 u7))) ∧
  (a1 = 4 →
   Q (u.1 33 5) u) ∧
  (a1 = 5 →
   w_X0_together u (fun v12 u11 =>
   Q v12 u11)) ∧
  (a1 = 6 →
   Q (u.1 8 1) u) ∧
  (a1 = 7 →
   w_X3_turnsTogether u (fun v16 u15 =>
   Q v16 u15)) ∧
  (a1 = 8 →
   Q (u.1 0 11) u) ∧
  ((a1.toInt < 0 ∨ 8 < a1.toInt) →
   Q (-2) u)
set_option maxRecDepth 10000 in
theorem m_X10_count {a1 : Int32} {u : gg_M}  {G : gg_T} {Q : Int32 → gg_M → Prop} (hG : gg_Cl none cX10_count 2 RX10 (some .int) 6 (gg_eI Q) G)  (h : w_X10_count a1 u  Q)   : G 0 [some (.ref 0), some (.int a1)] [] u := by
  unfold w_X10_count at h
  refine gg_iload_n hG dX10_count_0 rfl rfl ?_
  by_cases c1 : a1 = 0
  · refine gg_tabIn (off := 51) (tgt := 52) hG dX10_count_1 (by rw [c1]; decide) (by rw [c1]; decide) (by rw [c1]; decide) (by decide) ?_
    replace h := h.1 c1
    refine gg_aload_n hG dX10_count_52 rfl rfl ?_
    refine gg_get (v := .ref 2) hG dX10_count_53 (by decide) rfl fl_RX10_14 rfl ?_
    refine gg_get (v := .int (u.1 2 1)) hG dX10_count_56 (by decide) rfl fl_RX10_99 rfl ?_
    exact gg_iret hG dX10_count_59 rfl rfl ⟨_, rfl, h⟩
  by_cases c2 : a1 = 1
  · refine gg_tabIn (off := 59) (tgt := 60) hG dX10_count_1 (by rw [c2]; decide) (by rw [c2]; decide) (by rw [c2]; decide) (by decide) ?_
    replace h := h.2.1 c2
    refine gg_aload_n hG dX10_count_60 rfl rfl ?_
    refine gg_get (v := .ref 3) hG dX10_count_61 (by decide) rfl fl_RX10_18 rfl ?_
    refine gg_get (v := .int (u.1 3 1)) hG dX10_count_64 (by decide) rfl fl_RX10_99 rfl ?_
    exact gg_iret hG dX10_count_67 rfl rfl ⟨_, rfl, h⟩
  by_cases c3 : a1 = 2
  · refine gg_tabIn (off := 67) (tgt := 68) hG dX10_count_1 (by rw [c3]; decide) (by rw [c3]; decide) (by rw [c3]; decide) (by decide) ?_
    replace h := h.2.2.1 c3
    refine gg_aload_n hG dX10_count_68 rfl rfl ?_
    refine gg_get (v := .ref 12) hG dX10_count_69 (by decide) rfl fl_RX10_45 rfl ?_
    refine gg_get (v := .int (u.1 12 2)) hG dX10_count_72 (by decide) rfl fl_RX10_120 rfl ?_
    exact gg_iret hG dX10_count_75 rfl rfl ⟨_, rfl, h⟩
  by_cases c4 : a1 = 3
  · refine gg_tabIn (off := 75) (tgt := 76) hG dX10_count_1 (by rw [c4]; decide) (by rw [c4]; decide) (by rw [c4]; decide) (by decide) ?_
    replace h := h.2.2.2.1 c4
    refine gg_aload_n hG dX10_count_76 rfl rfl ?_
    refine gg_xv (As := []) (st := []) hG dX10_count_77 ml_RX10_137 Y_X10_known YV_X10_known (by decide) ⟨_, rfl, rfl⟩ (mt_X10_known h) rfl (by decide) (Nat.le_of_ble_eq_true rfl) rfl (gg_kr (fun v6 u5 h => ?_))
    obtain ⟨rfl, h⟩ := h
    refine gg_get (v := .int (u5.1 15 9)) hG dX10_count_80 (by decide) rfl fl_RX10_140 rfl ?_
    refine gg_xs (As := [.int (u5.1 15 9)]) (st := []) hG dX10_count_83 ml_RX10_143 Y_J6_bitCount_0f7a4 YS_J6_bitCount_0f7a4 (mt_J6_bitCount_0f7a4 h) rfl (by decide) (Nat.le_of_ble_eq_true rfl) rfl (gg_ki (fun v8 u7 h => ?_))
    exact gg_iret hG dX10_count_86 rfl rfl ⟨_, rfl, h⟩
  by_cases c9 : a1 = 4
  · refine gg_tabIn (off := 86) (tgt := 87) hG dX10_count_1 (by rw [c9]; decide) (by rw [c9]; decide) (by rw [c9]; decide) (by decide) ?_
    replace h := h.2.2.2.2.1 c9
    refine gg_aload_n hG dX10_count_87 rfl rfl ?_
    refine gg_get (v := .ref 33) hG dX10_count_88 (by decide) rfl fl_RX10_73 rfl ?_
    refine gg_get (v := .int (u.1 33 5)) hG dX10_count_91 (by decide) rfl fl_RX10_237 rfl ?_
    exact gg_iret hG dX10_count_94 rfl rfl ⟨_, rfl, h⟩
  by_cases c10 : a1 = 5
  · refine gg_tabIn (off := 94) (tgt := 95) hG dX10_count_1 (by rw [c10]; decide) (by rw [c10]; decide) (by rw [c10]; decide) (by decide) ?_
    replace h := h.2.2.2.2.2.1 c10
    refine gg_aload_n hG dX10_count_95 rfl rfl ?_
    refine gg_get (v := .ref 10) hG dX10_count_96 (by decide) rfl fl_RX10_38 rfl ?_
    refine gg_xv (As := []) (st := []) hG dX10_count_99 ml_RX10_296 Y_X0_together YV_X0_together (by decide) ⟨_, rfl, rfl⟩ (mt_X0_together h) rfl (by decide) (Nat.le_of_ble_eq_true rfl) rfl (gg_ki (fun v12 u11 h => ?_))
    exact gg_iret hG dX10_count_102 rfl rfl ⟨_, rfl, h⟩
  by_cases c13 : a1 = 6
  · refine gg_tabIn (off := 102) (tgt := 103) hG dX10_count_1 (by rw [c13]; decide) (by rw [c13]; decide) (by rw [c13]; decide) (by decide) ?_
    replace h := h.2.2.2.2.2.2.1 c13
    refine gg_aload_n hG dX10_count_103 rfl rfl ?_
    refine gg_get (v := .ref 8) hG dX10_count_104 (by decide) rfl fl_RX10_31 rfl ?_
    refine gg_get (v := .int (u.1 8 1)) hG dX10_count_107 (by decide) rfl fl_RX10_300 rfl ?_
    exact gg_iret hG dX10_count_110 rfl rfl ⟨_, rfl, h⟩
  by_cases c14 : a1 = 7
  · refine gg_tabIn (off := 110) (tgt := 111) hG dX10_count_1 (by rw [c14]; decide) (by rw [c14]; decide) (by rw [c14]; decide) (by decide) ?_
    replace h := h.2.2.2.2.2.2.2.1 c14
    refine gg_aload_n hG dX10_count_111 rfl rfl ?_
    refine gg_get (v := .ref 33) hG dX10_count_112 (by decide) rfl fl_RX10_73 rfl ?_
    refine gg_xv (As := []) (st := []) hG dX10_count_115 ml_RX10_301 Y_X3_turnsTogether YV_X3_turnsTogether (by decide) ⟨_, rfl, rfl⟩ (mt_X3_turnsTogether h) rfl (by decide) (Nat.le_of_ble_eq_true rfl) rfl (gg_ki (fun v16 u15 h => ?_))
    exact gg_iret hG dX10_count_118 rfl rfl ⟨_, rfl, h⟩
  by_cases c17 : a1 = 8
  · refine gg_tabIn (off := 118) (tgt := 119) hG dX10_count_1 (by rw [c17]; decide) (by rw [c17]; decide) (by rw [c17]; decide) (by decide) ?_
    replace h := h.2.2.2.2.2.2.2.2.1 c17
    refine gg_aload_n hG dX10_count_119 rfl rfl ?_
    refine gg_get (v := .int (u.1 0 11)) hG dX10_count_120 (by decide) rfl fl_RX10_266 rfl ?_
    exact gg_iret hG dX10_count_123 rfl rfl ⟨_, rfl, h⟩
  have hsw : a1.toInt < 0 ∨ 8 < a1.toInt := by
    have nc1 := lv_neT (a := 0) c1 (by decide)
    have nc2 := lv_neT (a := 1) c2 (by decide)
    have nc3 := lv_neT (a := 2) c3 (by decide)
    have nc4 := lv_neT (a := 3) c4 (by decide)
    have nc9 := lv_neT (a := 4) c9 (by decide)
    have nc10 := lv_neT (a := 5) c10 (by decide)
    have nc13 := lv_neT (a := 6) c13 (by decide)
    have nc14 := lv_neT (a := 7) c14 (by decide)
    have nc17 := lv_neT (a := 8) c17 (by decide)
    omega
  refine gg_tabOut (tgt := 124) hG dX10_count_1 hsw (by decide) ?_
  replace h := h.2.2.2.2.2.2.2.2.2 hsw
  refine gg_bipush (v := (-2)) hG dX10_count_124 (by decide) ?_
  exact gg_iret hG dX10_count_126 rfl rfl ⟨_, rfl, h⟩
theorem mt_X10_count {a1 : Int32}  {u : gg_M} {Q : Int32 → gg_M → Prop} (h : w_X10_count a1 u Q) : gg_Mt 6 yX10_count cX10_count 2 (some .int) [.ref 0, .int a1] u (gg_eI Q) :=
  gg_intro (own := RX10) (by decide +kernel) rfl rfl (Nat.le_of_ble_eq_true rfl) (fun G hG => m_X10_count hG  h)
/-! X10_digest -/
def b_X10_digest_c339  (a1 : Int64) (a3 : Int32) (u : gg_M)  (k339 : Int64 × Int32 × gg_M → Prop) (Q : Int64 → gg_M → Prop) : Prop :=
  (4 ≤ a3 →
   Q a1 u) ∧
  (¬ 4 ≤ a3 →
   w_X10_fits a3 u (fun v3 u2 =>
   ∀ v4 : Int64, v4 = (((31 : Int64) * a1) + v3.toInt64) →
   k339 (v4, (a3 + 1), u2)))
set_option maxRecDepth 10000 in
theorem mb_X10_digest_c339  {a1 : Int64} {a3 : Int32} {u : gg_M}  {k339 : Int64 × Int32 × gg_M → Prop} {G : gg_T} {Q : Int64 → gg_M → Prop} (hG : gg_Cl none cX10_digest 5 RX10 (some .long) 11 (gg_eJ Q) G)  (h : b_X10_digest_c339 a1 a3 u k339 Q)   (hk339 : ∀ s : Int64 × Int32 × gg_M, k339 s → G 339 [some (.ref 0), some (.long s.1), none, some (.int s.2.1), none] [] s.2.2) : G 339 [some (.ref 0), some (.long a1), none, some (.int a3), none] [] u := by
  unfold b_X10_digest_c339 at h
  refine gg_iload_n hG dX10_digest_339 rfl rfl ?_
  refine gg_iconst (v := 4) hG dX10_digest_340 (by decide) ?_
  refine gg_ic_ge (tgt := 363) hG dX10_digest_341 (by decide) (fun c1 => ?_) (fun c1 => ?_)
  · replace h := h.1 c1
    refine gg_lload_n hG dX10_digest_363 rfl rfl ?_
    exact gg_lret hG dX10_digest_364 rfl ⟨_, rfl, h⟩
  · replace h := h.2 c1
    refine gg_ldc2 hG dX10_digest_344 fc_RX10_306 ?_
    refine gg_lload_n hG dX10_digest_347 rfl rfl ?_
    refine gg_lmul hG dX10_digest_348 ?_
    refine gg_aload_n hG dX10_digest_349 rfl rfl ?_
    refine gg_iload_n hG dX10_digest_350 rfl rfl ?_
    refine gg_xv (As := [.int a3]) (st := [.long ((31 : Int64) * a1)]) hG dX10_digest_351 ml_RX10_348 Y_X10_fits YV_X10_fits (by decide) ⟨_, rfl, rfl⟩ (mt_X10_fits h) rfl (by decide) (Nat.le_of_ble_eq_true rfl) rfl (gg_ki (fun v3 u2 h => ?_))
    refine gg_i2l hG dX10_digest_354 ?_
    refine gg_ladd hG dX10_digest_355 ?_
    refine gg_nl (fun v4 e4 => ?_)
    replace h := h v4 e4
    refine gg_lstore_n (L1 := [some (.ref 0), some (.long v4), none, some (.int a3), none]) hG dX10_digest_356 rfl (by decide) rfl ?_
    refine gg_iinc (v := (a3 + 1)) (L1 := [some (.ref 0), some (.long v4), none, some (.int (a3 + 1)), none]) hG dX10_digest_357 rfl rfl (by decide) rfl ?_
    refine gg_goto (tgt := 339) hG dX10_digest_360 (by decide) ?_
    exact hk339 _ h
def w_X10_digest_c339 (a1 : Int64) (a3 : Int32) (u : gg_M)  (Q : Int64 → gg_M → Prop) : Prop :=
  gg_loop (fun (s : Int64 × Int32 × gg_M) k339 => b_X10_digest_c339  s.1 s.2.1 s.2.2  k339 Q) (a1, a3, u)
set_option maxRecDepth 10000 in
theorem m_X10_digest_c339 {a1 : Int64} {a3 : Int32} {u : gg_M}  {G : gg_T} {Q : Int64 → gg_M → Prop} (hG : gg_Cl none cX10_digest 5 RX10 (some .long) 11 (gg_eJ Q) G)  (h : w_X10_digest_c339 a1 a3 u  Q)   : G 339 [some (.ref 0), some (.long a1), none, some (.int a3), none] [] u :=
  gg_loop_use (P := fun s : Int64 × Int32 × gg_M => G 339 [some (.ref 0), some (.long s.1), none, some (.int s.2.1), none] [] s.2.2) h (fun s rc hb hr => mb_X10_digest_c339 hG  hb   hr)
def b_X10_digest_c285 (a3 : Int32) (a1 : Int64) (a4 : Int32) (u : gg_M) (k274 : Int64 × Int32 × gg_M → Prop) (k285 : Int64 × Int32 × gg_M → Prop) (Q : Int64 → gg_M → Prop) : Prop :=
  (8 ≤ a4 →
   k274 (a1, (a3 + 1), u)) ∧
  (¬ 8 ≤ a4 →
   vp_in a3 3 ∧
   w_X10_state (gg_sv 0 a3.toNatClampNeg) a4 u (fun v8 u7 =>
   ∀ v9 : Int64, v9 = (((31 : Int64) * a1) + v8.toInt64) →
   k285 (v9, (a4 + 1), u7)))
set_option maxRecDepth 10000 in
theorem mb_X10_digest_c285 {a3 : Int32} {a1 : Int64} {a4 : Int32} {u : gg_M} {k274 : Int64 × Int32 × gg_M → Prop} {k285 : Int64 × Int32 × gg_M → Prop} {G : gg_T} {Q : Int64 → gg_M → Prop} (hG : gg_Cl none cX10_digest 5 RX10 (some .long) 11 (gg_eJ Q) G)  (h : b_X10_digest_c285 a3 a1 a4 u k274 k285 Q)  (hk274 : ∀ s : Int64 × Int32 × gg_M, k274 s → G 274 [some (.ref 0), some (.long s.1), none, some (.int s.2.1), none] [] s.2.2) (hk285 : ∀ s : Int64 × Int32 × gg_M, k285 s → G 285 [some (.ref 0), some (.long s.1), none, some (.int a3), some (.int s.2.1)] [] s.2.2) : G 285 [some (.ref 0), some (.long a1), none, some (.int a3), some (.int a4)] [] u := by
  unfold b_X10_digest_c285 at h
  refine gg_iload hG dX10_digest_285 rfl ?_
  refine gg_bipush (v := 8) hG dX10_digest_287 (by decide) ?_
  refine gg_ic_ge (tgt := 317) hG dX10_digest_289 (by decide) (fun c5 => ?_) (fun c5 => ?_)
  · replace h := h.1 c5
    refine gg_iinc (v := (a3 + 1)) (L1 := [some (.ref 0), some (.long a1), none, some (.int (a3 + 1)), some (.int a4)]) hG dX10_digest_317 rfl rfl (by decide) rfl ?_
    refine gg_goto (tgt := 274) hG dX10_digest_320 (by decide) ?_
    refine gg_mk hG [true, true, false, true, false] rfl ?_
    exact hk274 _ h
  · replace h := h.2 c5
    refine gg_ldc2 hG dX10_digest_292 fc_RX10_306 ?_
    refine gg_lload_n hG dX10_digest_295 rfl rfl ?_
    refine gg_lmul hG dX10_digest_296 ?_
    refine gg_aload_n hG dX10_digest_297 rfl rfl ?_
    refine gg_gets (k0 := 0) hG dX10_digest_298 (by decide) fs_RX10_339 ?_
    refine gg_iload_n hG dX10_digest_301 rfl rfl ?_
    obtain ⟨h6, h⟩ := h
    refine gg_ti (j := a3.toNatClampNeg) (k0 := 0) hG dX10_digest_302 (by decide) rfl h6 rfl ?_
    refine gg_iload hG dX10_digest_303 rfl ?_
    refine gg_xv (As := [.int (gg_sv 0 a3.toNatClampNeg), .int a4]) (st := [.long ((31 : Int64) * a1)]) hG dX10_digest_305 ml_RX10_342 Y_X10_state YV_X10_state (by decide) ⟨_, rfl, rfl⟩ (mt_X10_state h) rfl (by decide) (Nat.le_of_ble_eq_true rfl) rfl (gg_ki (fun v8 u7 h => ?_))
    refine gg_i2l hG dX10_digest_308 ?_
    refine gg_ladd hG dX10_digest_309 ?_
    refine gg_nl (fun v9 e9 => ?_)
    replace h := h v9 e9
    refine gg_lstore_n (L1 := [some (.ref 0), some (.long v9), none, some (.int a3), some (.int a4)]) hG dX10_digest_310 rfl (by decide) rfl ?_
    refine gg_iinc (v := (a4 + 1)) (L1 := [some (.ref 0), some (.long v9), none, some (.int a3), some (.int (a4 + 1))]) hG dX10_digest_311 rfl rfl (by decide) rfl ?_
    refine gg_goto (tgt := 285) hG dX10_digest_314 (by decide) ?_
    exact hk285 _ h
def w_X10_digest_c285 (a1 : Int64) (a3 : Int32) (a4 : Int32) (u : gg_M) (k274 : Int64 × Int32 × gg_M → Prop) (Q : Int64 → gg_M → Prop) : Prop :=
  gg_loop (fun (s : Int64 × Int32 × gg_M) k285 => b_X10_digest_c285 a3 s.1 s.2.1 s.2.2 k274 k285 Q) (a1, a4, u)
set_option maxRecDepth 10000 in
theorem m_X10_digest_c285 {a1 : Int64} {a3 : Int32} {a4 : Int32} {u : gg_M} {k274 : Int64 × Int32 × gg_M → Prop} {G : gg_T} {Q : Int64 → gg_M → Prop} (hG : gg_Cl none cX10_digest 5 RX10 (some .long) 11 (gg_eJ Q) G)  (h : w_X10_digest_c285 a1 a3 a4 u k274 Q)  (hk274 : ∀ s : Int64 × Int32 × gg_M, k274 s → G 274 [some (.ref 0), some (.long s.1), none, some (.int s.2.1), none] [] s.2.2) : G 285 [some (.ref 0), some (.long a1), none, some (.int a3), some (.int a4)] [] u :=
  gg_loop_use (P := fun s : Int64 × Int32 × gg_M => G 285 [some (.ref 0), some (.long s.1), none, some (.int a3), some (.int s.2.1)] [] s.2.2) h (fun s rc hb hr => mb_X10_digest_c285 hG  hb  hk274 hr)
def b_X10_digest_c274  (a1 : Int64) (a3 : Int32) (u : gg_M)  (k274 : Int64 × Int32 × gg_M → Prop) (Q : Int64 → gg_M → Prop) : Prop :=
  (3 ≤ a3 →
   w_X10_drowned 0 3 u (fun v12 u11 =>
   ∀ v13 : Int64, v13 = (((31 : Int64) * a1) + v12.toInt64) →
   w_X10_digest_c339 v13 0 u11 Q)) ∧
  (¬ 3 ≤ a3 →
   w_X10_digest_c285 a1 a3 0 u k274 Q)
set_option maxRecDepth 10000 in
theorem mb_X10_digest_c274  {a1 : Int64} {a3 : Int32} {u : gg_M}  {k274 : Int64 × Int32 × gg_M → Prop} {G : gg_T} {Q : Int64 → gg_M → Prop} (hG : gg_Cl none cX10_digest 5 RX10 (some .long) 11 (gg_eJ Q) G)  (h : b_X10_digest_c274 a1 a3 u k274 Q)   (hk274 : ∀ s : Int64 × Int32 × gg_M, k274 s → G 274 [some (.ref 0), some (.long s.1), none, some (.int s.2.1), none] [] s.2.2) : G 274 [some (.ref 0), some (.long a1), none, some (.int a3), none] [] u := by
  unfold b_X10_digest_c274 at h
  refine gg_iload_n hG dX10_digest_274 rfl rfl ?_
  refine gg_gets (k0 := 0) hG dX10_digest_275 (by decide) fs_RX10_339 ?_
  refine gg_tlen (k0 := 0) (v := 3) hG dX10_digest_278 (by decide) (by decide +kernel) ?_
  refine gg_ic_ge (tgt := 323) hG dX10_digest_279 (by decide) (fun c10 => ?_) (fun c10 => ?_)
  · replace h := h.1 c10
    refine gg_ldc2 hG dX10_digest_323 fc_RX10_306 ?_
    refine gg_lload_n hG dX10_digest_326 rfl rfl ?_
    refine gg_lmul hG dX10_digest_327 ?_
    refine gg_aload_n hG dX10_digest_328 rfl rfl ?_
    refine gg_iconst (v := 0) hG dX10_digest_329 (by decide) ?_
    refine gg_iconst (v := 3) hG dX10_digest_330 (by decide) ?_
    refine gg_xv (As := [.int 0, .int 3]) (st := [.long ((31 : Int64) * a1)]) hG dX10_digest_331 ml_RX10_345 Y_X10_drowned YV_X10_drowned (by decide) ⟨_, rfl, rfl⟩ (mt_X10_drowned h) rfl (by decide) (Nat.le_of_ble_eq_true rfl) rfl (gg_ki (fun v12 u11 h => ?_))
    refine gg_i2l hG dX10_digest_334 ?_
    refine gg_ladd hG dX10_digest_335 ?_
    refine gg_nl (fun v13 e13 => ?_)
    replace h := h v13 e13
    refine gg_lstore_n (L1 := [some (.ref 0), some (.long v13), none, some (.int a3), none]) hG dX10_digest_336 rfl (by decide) rfl ?_
    refine gg_iconst (v := 0) hG dX10_digest_337 (by decide) ?_
    refine gg_istore_n (L1 := [some (.ref 0), some (.long v13), none, some (.int 0), none]) hG dX10_digest_338 rfl (by decide) rfl ?_
    exact m_X10_digest_c339 hG h
  · replace h := h.2 c10
    refine gg_iconst (v := 0) hG dX10_digest_282 (by decide) ?_
    refine gg_istore (L1 := [some (.ref 0), some (.long a1), none, some (.int a3), some (.int 0)]) hG dX10_digest_283 (by decide) rfl ?_
    exact m_X10_digest_c285 hG h hk274
def w_X10_digest_c274 (a1 : Int64) (a3 : Int32) (u : gg_M)  (Q : Int64 → gg_M → Prop) : Prop :=
  gg_loop (fun (s : Int64 × Int32 × gg_M) k274 => b_X10_digest_c274  s.1 s.2.1 s.2.2  k274 Q) (a1, a3, u)
set_option maxRecDepth 10000 in
theorem m_X10_digest_c274 {a1 : Int64} {a3 : Int32} {u : gg_M}  {G : gg_T} {Q : Int64 → gg_M → Prop} (hG : gg_Cl none cX10_digest 5 RX10 (some .long) 11 (gg_eJ Q) G)  (h : w_X10_digest_c274 a1 a3 u  Q)   : G 274 [some (.ref 0), some (.long a1), none, some (.int a3), none] [] u :=
  gg_loop_use (P := fun s : Int64 × Int32 × gg_M => G 274 [some (.ref 0), some (.long s.1), none, some (.int s.2.1), none] [] s.2.2) h (fun s rc hb hr => mb_X10_digest_c274 hG  hb   hr)
def b_X10_digest_c214  (a1 : Int64) (a3 : Int32) (u : gg_M)  (k214 : Int64 × Int32 × gg_M → Prop) (Q : Int64 → gg_M → Prop) : Prop :=
  (2 ≤ a3 →
   w_X10_has (-1) u (fun v16 u15 =>
   w_X10_work 2 u15 (fun v18 u17 =>
   ∀ v19 : Int64, v19 = (((31 : Int64) * (((31 : Int64) * a1) + v16.toInt64)) + v18) →
   w_X10_digest_c274 v19 0 u17 Q))) ∧
  (¬ 2 ≤ a3 →
   w_X10_habit a3 0 u (fun v21 u20 =>
   w_X10_habit a3 1 u20 (fun v23 u22 =>
   ∀ v24 : Int64, v24 = (((31 : Int64) * (((31 : Int64) * a1) + v21)) + v23) →
   k214 (v24, (a3 + 1), u22))))
set_option maxRecDepth 10000 in
theorem mb_X10_digest_c214  {a1 : Int64} {a3 : Int32} {u : gg_M}  {k214 : Int64 × Int32 × gg_M → Prop} {G : gg_T} {Q : Int64 → gg_M → Prop} (hG : gg_Cl none cX10_digest 5 RX10 (some .long) 11 (gg_eJ Q) G)  (h : b_X10_digest_c214 a1 a3 u k214 Q)   (hk214 : ∀ s : Int64 × Int32 × gg_M, k214 s → G 214 [some (.ref 0), some (.long s.1), none, some (.int s.2.1), none] [] s.2.2) : G 214 [some (.ref 0), some (.long a1), none, some (.int a3), none] [] u := by
  unfold b_X10_digest_c214 at h
  refine gg_iload_n hG dX10_digest_214 rfl rfl ?_
  refine gg_iconst (v := 2) hG dX10_digest_215 (by decide) ?_
  refine gg_ic_ge (tgt := 249) hG dX10_digest_216 (by decide) (fun c14 => ?_) (fun c14 => ?_)
  · replace h := h.1 c14
    refine gg_ldc2 hG dX10_digest_249 fc_RX10_306 ?_
    refine gg_ldc2 hG dX10_digest_252 fc_RX10_306 ?_
    refine gg_lload_n hG dX10_digest_255 rfl rfl ?_
    refine gg_lmul hG dX10_digest_256 ?_
    refine gg_aload_n hG dX10_digest_257 rfl rfl ?_
    refine gg_iconst (v := (-1)) hG dX10_digest_258 (by decide) ?_
    refine gg_xv (As := [.int (-1)]) (st := [.long ((31 : Int64) * a1), .long 31]) hG dX10_digest_259 ml_RX10_333 Y_X10_has YV_X10_has (by decide) ⟨_, rfl, rfl⟩ (mt_X10_has h) rfl (by decide) (Nat.le_of_ble_eq_true rfl) rfl (gg_ki (fun v16 u15 h => ?_))
    refine gg_i2l hG dX10_digest_262 ?_
    refine gg_ladd hG dX10_digest_263 ?_
    refine gg_lmul hG dX10_digest_264 ?_
    refine gg_aload_n hG dX10_digest_265 rfl rfl ?_
    refine gg_iconst (v := 2) hG dX10_digest_266 (by decide) ?_
    refine gg_xv (As := [.int 2]) (st := [.long ((31 : Int64) * (((31 : Int64) * a1) + v16.toInt64))]) hG dX10_digest_267 ml_RX10_336 Y_X10_work YV_X10_work (by decide) ⟨_, rfl, rfl⟩ (mt_X10_work h) rfl (by decide) (Nat.le_of_ble_eq_true rfl) rfl (gg_kj (fun v18 u17 h => ?_))
    refine gg_ladd hG dX10_digest_270 ?_
    refine gg_nl (fun v19 e19 => ?_)
    replace h := h v19 e19
    refine gg_lstore_n (L1 := [some (.ref 0), some (.long v19), none, some (.int a3), none]) hG dX10_digest_271 rfl (by decide) rfl ?_
    refine gg_iconst (v := 0) hG dX10_digest_272 (by decide) ?_
    refine gg_istore_n (L1 := [some (.ref 0), some (.long v19), none, some (.int 0), none]) hG dX10_digest_273 rfl (by decide) rfl ?_
    exact m_X10_digest_c274 hG h
  · replace h := h.2 c14
    refine gg_ldc2 hG dX10_digest_219 fc_RX10_306 ?_
    refine gg_ldc2 hG dX10_digest_222 fc_RX10_306 ?_
    refine gg_lload_n hG dX10_digest_225 rfl rfl ?_
    refine gg_lmul hG dX10_digest_226 ?_
    refine gg_aload_n hG dX10_digest_227 rfl rfl ?_
    refine gg_iload_n hG dX10_digest_228 rfl rfl ?_
    refine gg_iconst (v := 0) hG dX10_digest_229 (by decide) ?_
    refine gg_xv (As := [.int a3, .int 0]) (st := [.long ((31 : Int64) * a1), .long 31]) hG dX10_digest_230 ml_RX10_330 Y_X10_habit YV_X10_habit (by decide) ⟨_, rfl, rfl⟩ (mt_X10_habit h) rfl (by decide) (Nat.le_of_ble_eq_true rfl) rfl (gg_kj (fun v21 u20 h => ?_))
    refine gg_ladd hG dX10_digest_233 ?_
    refine gg_lmul hG dX10_digest_234 ?_
    refine gg_aload_n hG dX10_digest_235 rfl rfl ?_
    refine gg_iload_n hG dX10_digest_236 rfl rfl ?_
    refine gg_iconst (v := 1) hG dX10_digest_237 (by decide) ?_
    refine gg_xv (As := [.int a3, .int 1]) (st := [.long ((31 : Int64) * (((31 : Int64) * a1) + v21))]) hG dX10_digest_238 ml_RX10_330 Y_X10_habit YV_X10_habit (by decide) ⟨_, rfl, rfl⟩ (mt_X10_habit h) rfl (by decide) (Nat.le_of_ble_eq_true rfl) rfl (gg_kj (fun v23 u22 h => ?_))
    refine gg_ladd hG dX10_digest_241 ?_
    refine gg_nl (fun v24 e24 => ?_)
    replace h := h v24 e24
    refine gg_lstore_n (L1 := [some (.ref 0), some (.long v24), none, some (.int a3), none]) hG dX10_digest_242 rfl (by decide) rfl ?_
    refine gg_iinc (v := (a3 + 1)) (L1 := [some (.ref 0), some (.long v24), none, some (.int (a3 + 1)), none]) hG dX10_digest_243 rfl rfl (by decide) rfl ?_
    refine gg_goto (tgt := 214) hG dX10_digest_246 (by decide) ?_
    exact hk214 _ h
def w_X10_digest_c214 (a1 : Int64) (a3 : Int32) (u : gg_M)  (Q : Int64 → gg_M → Prop) : Prop :=
  gg_loop (fun (s : Int64 × Int32 × gg_M) k214 => b_X10_digest_c214  s.1 s.2.1 s.2.2  k214 Q) (a1, a3, u)
set_option maxRecDepth 10000 in
theorem m_X10_digest_c214 {a1 : Int64} {a3 : Int32} {u : gg_M}  {G : gg_T} {Q : Int64 → gg_M → Prop} (hG : gg_Cl none cX10_digest 5 RX10 (some .long) 11 (gg_eJ Q) G)  (h : w_X10_digest_c214 a1 a3 u  Q)   : G 214 [some (.ref 0), some (.long a1), none, some (.int a3), none] [] u :=
  gg_loop_use (P := fun s : Int64 × Int32 × gg_M => G 214 [some (.ref 0), some (.long s.1), none, some (.int s.2.1), none] [] s.2.2) h (fun s rc hb hr => mb_X10_digest_c214 hG  hb   hr)
def b_X10_digest_c188  (a1 : Int64) (a3 : Int32) (u : gg_M)  (k188 : Int64 × Int32 × gg_M → Prop) (Q : Int64 → gg_M → Prop) : Prop :=
  (3 ≤ a3 →
   w_X10_digest_c214 a1 0 u Q) ∧
  (¬ 3 ≤ a3 →
   w_X10_best 2 a3 u (fun v27 u26 =>
   ∀ v28 : Int64, v28 = (((31 : Int64) * a1) + v27) →
   k188 (v28, (a3 + 1), u26)))
set_option maxRecDepth 10000 in
theorem mb_X10_digest_c188  {a1 : Int64} {a3 : Int32} {u : gg_M}  {k188 : Int64 × Int32 × gg_M → Prop} {G : gg_T} {Q : Int64 → gg_M → Prop} (hG : gg_Cl none cX10_digest 5 RX10 (some .long) 11 (gg_eJ Q) G)  (h : b_X10_digest_c188 a1 a3 u k188 Q)   (hk188 : ∀ s : Int64 × Int32 × gg_M, k188 s → G 188 [some (.ref 0), some (.long s.1), none, some (.int s.2.1), none] [] s.2.2) : G 188 [some (.ref 0), some (.long a1), none, some (.int a3), none] [] u := by
  unfold b_X10_digest_c188 at h
  refine gg_iload_n hG dX10_digest_188 rfl rfl ?_
  refine gg_iconst (v := 3) hG dX10_digest_189 (by decide) ?_
  refine gg_ic_ge (tgt := 212) hG dX10_digest_190 (by decide) (fun c25 => ?_) (fun c25 => ?_)
  · replace h := h.1 c25
    refine gg_iconst (v := 0) hG dX10_digest_212 (by decide) ?_
    refine gg_istore_n (L1 := [some (.ref 0), some (.long a1), none, some (.int 0), none]) hG dX10_digest_213 rfl (by decide) rfl ?_
    exact m_X10_digest_c214 hG h
  · replace h := h.2 c25
    refine gg_ldc2 hG dX10_digest_193 fc_RX10_306 ?_
    refine gg_lload_n hG dX10_digest_196 rfl rfl ?_
    refine gg_lmul hG dX10_digest_197 ?_
    refine gg_aload_n hG dX10_digest_198 rfl rfl ?_
    refine gg_iconst (v := 2) hG dX10_digest_199 (by decide) ?_
    refine gg_iload_n hG dX10_digest_200 rfl rfl ?_
    refine gg_xv (As := [.int 2, .int a3]) (st := [.long ((31 : Int64) * a1)]) hG dX10_digest_201 ml_RX10_327 Y_X10_best YV_X10_best (by decide) ⟨_, rfl, rfl⟩ (mt_X10_best h) rfl (by decide) (Nat.le_of_ble_eq_true rfl) rfl (gg_kj (fun v27 u26 h => ?_))
    refine gg_ladd hG dX10_digest_204 ?_
    refine gg_nl (fun v28 e28 => ?_)
    replace h := h v28 e28
    refine gg_lstore_n (L1 := [some (.ref 0), some (.long v28), none, some (.int a3), none]) hG dX10_digest_205 rfl (by decide) rfl ?_
    refine gg_iinc (v := (a3 + 1)) (L1 := [some (.ref 0), some (.long v28), none, some (.int (a3 + 1)), none]) hG dX10_digest_206 rfl rfl (by decide) rfl ?_
    refine gg_goto (tgt := 188) hG dX10_digest_209 (by decide) ?_
    exact hk188 _ h
def w_X10_digest_c188 (a1 : Int64) (a3 : Int32) (u : gg_M)  (Q : Int64 → gg_M → Prop) : Prop :=
  gg_loop (fun (s : Int64 × Int32 × gg_M) k188 => b_X10_digest_c188  s.1 s.2.1 s.2.2  k188 Q) (a1, a3, u)
set_option maxRecDepth 10000 in
theorem m_X10_digest_c188 {a1 : Int64} {a3 : Int32} {u : gg_M}  {G : gg_T} {Q : Int64 → gg_M → Prop} (hG : gg_Cl none cX10_digest 5 RX10 (some .long) 11 (gg_eJ Q) G)  (h : w_X10_digest_c188 a1 a3 u  Q)   : G 188 [some (.ref 0), some (.long a1), none, some (.int a3), none] [] u :=
  gg_loop_use (P := fun s : Int64 × Int32 × gg_M => G 188 [some (.ref 0), some (.long s.1), none, some (.int s.2.1), none] [] s.2.2) h (fun s rc hb hr => mb_X10_digest_c188 hG  hb   hr)
def b_X10_digest_c161  (a1 : Int64) (a3 : Int32) (u : gg_M)  (k161 : Int64 × Int32 × gg_M → Prop) (Q : Int64 → gg_M → Prop) : Prop :=
  (10 ≤ a3 →
   w_X10_digest_c188 a1 0 u Q) ∧
  (¬ 10 ≤ a3 →
   w_X10_parts a3 u (fun v31 u30 =>
   ∀ v32 : Int64, v32 = (((31 : Int64) * a1) + v31.toInt64) →
   k161 (v32, (a3 + 1), u30)))
set_option maxRecDepth 10000 in
theorem mb_X10_digest_c161  {a1 : Int64} {a3 : Int32} {u : gg_M}  {k161 : Int64 × Int32 × gg_M → Prop} {G : gg_T} {Q : Int64 → gg_M → Prop} (hG : gg_Cl none cX10_digest 5 RX10 (some .long) 11 (gg_eJ Q) G)  (h : b_X10_digest_c161 a1 a3 u k161 Q)   (hk161 : ∀ s : Int64 × Int32 × gg_M, k161 s → G 161 [some (.ref 0), some (.long s.1), none, some (.int s.2.1), none] [] s.2.2) : G 161 [some (.ref 0), some (.long a1), none, some (.int a3), none] [] u := by
  unfold b_X10_digest_c161 at h
  refine gg_iload_n hG dX10_digest_161 rfl rfl ?_
  refine gg_bipush (v := 10) hG dX10_digest_162 (by decide) ?_
  refine gg_ic_ge (tgt := 186) hG dX10_digest_164 (by decide) (fun c29 => ?_) (fun c29 => ?_)
  · replace h := h.1 c29
    refine gg_iconst (v := 0) hG dX10_digest_186 (by decide) ?_
    refine gg_istore_n (L1 := [some (.ref 0), some (.long a1), none, some (.int 0), none]) hG dX10_digest_187 rfl (by decide) rfl ?_
    exact m_X10_digest_c188 hG h
  · replace h := h.2 c29
    refine gg_ldc2 hG dX10_digest_167 fc_RX10_306 ?_
    refine gg_lload_n hG dX10_digest_170 rfl rfl ?_
    refine gg_lmul hG dX10_digest_171 ?_
    refine gg_aload_n hG dX10_digest_172 rfl rfl ?_
    refine gg_iload_n hG dX10_digest_173 rfl rfl ?_
    refine gg_xv (As := [.int a3]) (st := [.long ((31 : Int64) * a1)]) hG dX10_digest_174 ml_RX10_324 Y_X10_parts YV_X10_parts (by decide) ⟨_, rfl, rfl⟩ (mt_X10_parts h) rfl (by decide) (Nat.le_of_ble_eq_true rfl) rfl (gg_ki (fun v31 u30 h => ?_))
    refine gg_i2l hG dX10_digest_177 ?_
    refine gg_ladd hG dX10_digest_178 ?_
    refine gg_nl (fun v32 e32 => ?_)
    replace h := h v32 e32
    refine gg_lstore_n (L1 := [some (.ref 0), some (.long v32), none, some (.int a3), none]) hG dX10_digest_179 rfl (by decide) rfl ?_
    refine gg_iinc (v := (a3 + 1)) (L1 := [some (.ref 0), some (.long v32), none, some (.int (a3 + 1)), none]) hG dX10_digest_180 rfl rfl (by decide) rfl ?_
    refine gg_goto (tgt := 161) hG dX10_digest_183 (by decide) ?_
    exact hk161 _ h
def w_X10_digest_c161 (a1 : Int64) (a3 : Int32) (u : gg_M)  (Q : Int64 → gg_M → Prop) : Prop :=
  gg_loop (fun (s : Int64 × Int32 × gg_M) k161 => b_X10_digest_c161  s.1 s.2.1 s.2.2  k161 Q) (a1, a3, u)
set_option maxRecDepth 10000 in
theorem m_X10_digest_c161 {a1 : Int64} {a3 : Int32} {u : gg_M}  {G : gg_T} {Q : Int64 → gg_M → Prop} (hG : gg_Cl none cX10_digest 5 RX10 (some .long) 11 (gg_eJ Q) G)  (h : w_X10_digest_c161 a1 a3 u  Q)   : G 161 [some (.ref 0), some (.long a1), none, some (.int a3), none] [] u :=
  gg_loop_use (P := fun s : Int64 × Int32 × gg_M => G 161 [some (.ref 0), some (.long s.1), none, some (.int s.2.1), none] [] s.2.2) h (fun s rc hb hr => mb_X10_digest_c161 hG  hb   hr)
def b_X10_digest_c121  (a1 : Int64) (a3 : Int32) (u : gg_M)  (k121 : Int64 × Int32 × gg_M → Prop) (Q : Int64 → gg_M → Prop) : Prop :=
  (10 ≤ a3 →
   w_X10_digest_c161 a1 0 u Q) ∧
  (¬ 10 ≤ a3 →
   w_X10_chance a3 2 0 u (fun v35 u34 =>
   w_X10_chance a3 2 1 u34 (fun v37 u36 =>
   ∀ v38 : Int64, v38 = (((31 : Int64) * (((31 : Int64) * a1) + v35)) + v37) →
   k121 (v38, (a3 + 1), u36))))
set_option maxRecDepth 10000 in
theorem mb_X10_digest_c121  {a1 : Int64} {a3 : Int32} {u : gg_M}  {k121 : Int64 × Int32 × gg_M → Prop} {G : gg_T} {Q : Int64 → gg_M → Prop} (hG : gg_Cl none cX10_digest 5 RX10 (some .long) 11 (gg_eJ Q) G)  (h : b_X10_digest_c121 a1 a3 u k121 Q)   (hk121 : ∀ s : Int64 × Int32 × gg_M, k121 s → G 121 [some (.ref 0), some (.long s.1), none, some (.int s.2.1), none] [] s.2.2) : G 121 [some (.ref 0), some (.long a1), none, some (.int a3), none] [] u := by
  unfold b_X10_digest_c121 at h
  refine gg_iload_n hG dX10_digest_121 rfl rfl ?_
  refine gg_bipush (v := 10) hG dX10_digest_122 (by decide) ?_
  refine gg_ic_ge (tgt := 159) hG dX10_digest_124 (by decide) (fun c33 => ?_) (fun c33 => ?_)
  · replace h := h.1 c33
    refine gg_iconst (v := 0) hG dX10_digest_159 (by decide) ?_
    refine gg_istore_n (L1 := [some (.ref 0), some (.long a1), none, some (.int 0), none]) hG dX10_digest_160 rfl (by decide) rfl ?_
    exact m_X10_digest_c161 hG h
  · replace h := h.2 c33
    refine gg_ldc2 hG dX10_digest_127 fc_RX10_306 ?_
    refine gg_ldc2 hG dX10_digest_130 fc_RX10_306 ?_
    refine gg_lload_n hG dX10_digest_133 rfl rfl ?_
    refine gg_lmul hG dX10_digest_134 ?_
    refine gg_aload_n hG dX10_digest_135 rfl rfl ?_
    refine gg_iload_n hG dX10_digest_136 rfl rfl ?_
    refine gg_iconst (v := 2) hG dX10_digest_137 (by decide) ?_
    refine gg_iconst (v := 0) hG dX10_digest_138 (by decide) ?_
    refine gg_xv (As := [.int a3, .int 2, .int 0]) (st := [.long ((31 : Int64) * a1), .long 31]) hG dX10_digest_139 ml_RX10_320 Y_X10_chance YV_X10_chance (by decide) ⟨_, rfl, rfl⟩ (mt_X10_chance h) rfl (by decide) (Nat.le_of_ble_eq_true rfl) rfl (gg_kj (fun v35 u34 h => ?_))
    refine gg_ladd hG dX10_digest_142 ?_
    refine gg_lmul hG dX10_digest_143 ?_
    refine gg_aload_n hG dX10_digest_144 rfl rfl ?_
    refine gg_iload_n hG dX10_digest_145 rfl rfl ?_
    refine gg_iconst (v := 2) hG dX10_digest_146 (by decide) ?_
    refine gg_iconst (v := 1) hG dX10_digest_147 (by decide) ?_
    refine gg_xv (As := [.int a3, .int 2, .int 1]) (st := [.long ((31 : Int64) * (((31 : Int64) * a1) + v35))]) hG dX10_digest_148 ml_RX10_320 Y_X10_chance YV_X10_chance (by decide) ⟨_, rfl, rfl⟩ (mt_X10_chance h) rfl (by decide) (Nat.le_of_ble_eq_true rfl) rfl (gg_kj (fun v37 u36 h => ?_))
    refine gg_ladd hG dX10_digest_151 ?_
    refine gg_nl (fun v38 e38 => ?_)
    replace h := h v38 e38
    refine gg_lstore_n (L1 := [some (.ref 0), some (.long v38), none, some (.int a3), none]) hG dX10_digest_152 rfl (by decide) rfl ?_
    refine gg_iinc (v := (a3 + 1)) (L1 := [some (.ref 0), some (.long v38), none, some (.int (a3 + 1)), none]) hG dX10_digest_153 rfl rfl (by decide) rfl ?_
    refine gg_goto (tgt := 121) hG dX10_digest_156 (by decide) ?_
    exact hk121 _ h
def w_X10_digest_c121 (a1 : Int64) (a3 : Int32) (u : gg_M)  (Q : Int64 → gg_M → Prop) : Prop :=
  gg_loop (fun (s : Int64 × Int32 × gg_M) k121 => b_X10_digest_c121  s.1 s.2.1 s.2.2  k121 Q) (a1, a3, u)
set_option maxRecDepth 10000 in
theorem m_X10_digest_c121 {a1 : Int64} {a3 : Int32} {u : gg_M}  {G : gg_T} {Q : Int64 → gg_M → Prop} (hG : gg_Cl none cX10_digest 5 RX10 (some .long) 11 (gg_eJ Q) G)  (h : w_X10_digest_c121 a1 a3 u  Q)   : G 121 [some (.ref 0), some (.long a1), none, some (.int a3), none] [] u :=
  gg_loop_use (P := fun s : Int64 × Int32 × gg_M => G 121 [some (.ref 0), some (.long s.1), none, some (.int s.2.1), none] [] s.2.2) h (fun s rc hb hr => mb_X10_digest_c121 hG  hb   hr)
def b_X10_digest_c84  (a1 : Int64) (a3 : Int32) (u : gg_M)  (k84 : Int64 × Int32 × gg_M → Prop) (Q : Int64 → gg_M → Prop) : Prop :=
  (5 ≤ a3 →
   w_X10_digest_c121 a1 0 u Q) ∧
  (¬ 5 ≤ a3 →
   w_X10_trouble a3 0 u (fun v41 u40 =>
   w_X10_trouble a3 1 u40 (fun v43 u42 =>
   ∀ v44 : Int64, v44 = (((31 : Int64) * (((31 : Int64) * a1) + v41)) + v43) →
   k84 (v44, (a3 + 1), u42))))
set_option maxRecDepth 10000 in
theorem mb_X10_digest_c84  {a1 : Int64} {a3 : Int32} {u : gg_M}  {k84 : Int64 × Int32 × gg_M → Prop} {G : gg_T} {Q : Int64 → gg_M → Prop} (hG : gg_Cl none cX10_digest 5 RX10 (some .long) 11 (gg_eJ Q) G)  (h : b_X10_digest_c84 a1 a3 u k84 Q)   (hk84 : ∀ s : Int64 × Int32 × gg_M, k84 s → G 84 [some (.ref 0), some (.long s.1), none, some (.int s.2.1), none] [] s.2.2) : G 84 [some (.ref 0), some (.long a1), none, some (.int a3), none] [] u := by
  unfold b_X10_digest_c84 at h
  refine gg_iload_n hG dX10_digest_84 rfl rfl ?_
  refine gg_iconst (v := 5) hG dX10_digest_85 (by decide) ?_
  refine gg_ic_ge (tgt := 119) hG dX10_digest_86 (by decide) (fun c39 => ?_) (fun c39 => ?_)
  · replace h := h.1 c39
    refine gg_iconst (v := 0) hG dX10_digest_119 (by decide) ?_
    refine gg_istore_n (L1 := [some (.ref 0), some (.long a1), none, some (.int 0), none]) hG dX10_digest_120 rfl (by decide) rfl ?_
    exact m_X10_digest_c121 hG h
  · replace h := h.2 c39
    refine gg_ldc2 hG dX10_digest_89 fc_RX10_306 ?_
    refine gg_ldc2 hG dX10_digest_92 fc_RX10_306 ?_
    refine gg_lload_n hG dX10_digest_95 rfl rfl ?_
    refine gg_lmul hG dX10_digest_96 ?_
    refine gg_aload_n hG dX10_digest_97 rfl rfl ?_
    refine gg_iload_n hG dX10_digest_98 rfl rfl ?_
    refine gg_iconst (v := 0) hG dX10_digest_99 (by decide) ?_
    refine gg_xv (As := [.int a3, .int 0]) (st := [.long ((31 : Int64) * a1), .long 31]) hG dX10_digest_100 ml_RX10_316 Y_X10_trouble YV_X10_trouble (by decide) ⟨_, rfl, rfl⟩ (mt_X10_trouble h) rfl (by decide) (Nat.le_of_ble_eq_true rfl) rfl (gg_kj (fun v41 u40 h => ?_))
    refine gg_ladd hG dX10_digest_103 ?_
    refine gg_lmul hG dX10_digest_104 ?_
    refine gg_aload_n hG dX10_digest_105 rfl rfl ?_
    refine gg_iload_n hG dX10_digest_106 rfl rfl ?_
    refine gg_iconst (v := 1) hG dX10_digest_107 (by decide) ?_
    refine gg_xv (As := [.int a3, .int 1]) (st := [.long ((31 : Int64) * (((31 : Int64) * a1) + v41))]) hG dX10_digest_108 ml_RX10_316 Y_X10_trouble YV_X10_trouble (by decide) ⟨_, rfl, rfl⟩ (mt_X10_trouble h) rfl (by decide) (Nat.le_of_ble_eq_true rfl) rfl (gg_kj (fun v43 u42 h => ?_))
    refine gg_ladd hG dX10_digest_111 ?_
    refine gg_nl (fun v44 e44 => ?_)
    replace h := h v44 e44
    refine gg_lstore_n (L1 := [some (.ref 0), some (.long v44), none, some (.int a3), none]) hG dX10_digest_112 rfl (by decide) rfl ?_
    refine gg_iinc (v := (a3 + 1)) (L1 := [some (.ref 0), some (.long v44), none, some (.int (a3 + 1)), none]) hG dX10_digest_113 rfl rfl (by decide) rfl ?_
    refine gg_goto (tgt := 84) hG dX10_digest_116 (by decide) ?_
    exact hk84 _ h
def w_X10_digest_c84 (a1 : Int64) (a3 : Int32) (u : gg_M)  (Q : Int64 → gg_M → Prop) : Prop :=
  gg_loop (fun (s : Int64 × Int32 × gg_M) k84 => b_X10_digest_c84  s.1 s.2.1 s.2.2  k84 Q) (a1, a3, u)
set_option maxRecDepth 10000 in
theorem m_X10_digest_c84 {a1 : Int64} {a3 : Int32} {u : gg_M}  {G : gg_T} {Q : Int64 → gg_M → Prop} (hG : gg_Cl none cX10_digest 5 RX10 (some .long) 11 (gg_eJ Q) G)  (h : w_X10_digest_c84 a1 a3 u  Q)   : G 84 [some (.ref 0), some (.long a1), none, some (.int a3), none] [] u :=
  gg_loop_use (P := fun s : Int64 × Int32 × gg_M => G 84 [some (.ref 0), some (.long s.1), none, some (.int s.2.1), none] [] s.2.2) h (fun s rc hb hr => mb_X10_digest_c84 hG  hb   hr)
def b_X10_digest_c57  (a1 : Int64) (a3 : Int32) (u : gg_M)  (k57 : Int64 × Int32 × gg_M → Prop) (Q : Int64 → gg_M → Prop) : Prop :=
  (7 ≤ a3 →
   w_X10_digest_c84 a1 0 u Q) ∧
  (¬ 7 ≤ a3 →
   w_X10_motor a3 u (fun v47 u46 =>
   ∀ v48 : Int64, v48 = (((31 : Int64) * a1) + v47.toInt64) →
   k57 (v48, (a3 + 1), u46)))
set_option maxRecDepth 10000 in
theorem mb_X10_digest_c57  {a1 : Int64} {a3 : Int32} {u : gg_M}  {k57 : Int64 × Int32 × gg_M → Prop} {G : gg_T} {Q : Int64 → gg_M → Prop} (hG : gg_Cl none cX10_digest 5 RX10 (some .long) 11 (gg_eJ Q) G)  (h : b_X10_digest_c57 a1 a3 u k57 Q)   (hk57 : ∀ s : Int64 × Int32 × gg_M, k57 s → G 57 [some (.ref 0), some (.long s.1), none, some (.int s.2.1), none] [] s.2.2) : G 57 [some (.ref 0), some (.long a1), none, some (.int a3), none] [] u := by
  unfold b_X10_digest_c57 at h
  refine gg_iload_n hG dX10_digest_57 rfl rfl ?_
  refine gg_bipush (v := 7) hG dX10_digest_58 (by decide) ?_
  refine gg_ic_ge (tgt := 82) hG dX10_digest_60 (by decide) (fun c45 => ?_) (fun c45 => ?_)
  · replace h := h.1 c45
    refine gg_iconst (v := 0) hG dX10_digest_82 (by decide) ?_
    refine gg_istore_n (L1 := [some (.ref 0), some (.long a1), none, some (.int 0), none]) hG dX10_digest_83 rfl (by decide) rfl ?_
    exact m_X10_digest_c84 hG h
  · replace h := h.2 c45
    refine gg_ldc2 hG dX10_digest_63 fc_RX10_306 ?_
    refine gg_lload_n hG dX10_digest_66 rfl rfl ?_
    refine gg_lmul hG dX10_digest_67 ?_
    refine gg_aload_n hG dX10_digest_68 rfl rfl ?_
    refine gg_iload_n hG dX10_digest_69 rfl rfl ?_
    refine gg_xv (As := [.int a3]) (st := [.long ((31 : Int64) * a1)]) hG dX10_digest_70 ml_RX10_313 Y_X10_motor YV_X10_motor (by decide) ⟨_, rfl, rfl⟩ (mt_X10_motor h) rfl (by decide) (Nat.le_of_ble_eq_true rfl) rfl (gg_ki (fun v47 u46 h => ?_))
    refine gg_i2l hG dX10_digest_73 ?_
    refine gg_ladd hG dX10_digest_74 ?_
    refine gg_nl (fun v48 e48 => ?_)
    replace h := h v48 e48
    refine gg_lstore_n (L1 := [some (.ref 0), some (.long v48), none, some (.int a3), none]) hG dX10_digest_75 rfl (by decide) rfl ?_
    refine gg_iinc (v := (a3 + 1)) (L1 := [some (.ref 0), some (.long v48), none, some (.int (a3 + 1)), none]) hG dX10_digest_76 rfl rfl (by decide) rfl ?_
    refine gg_goto (tgt := 57) hG dX10_digest_79 (by decide) ?_
    exact hk57 _ h
def w_X10_digest_c57 (a1 : Int64) (a3 : Int32) (u : gg_M)  (Q : Int64 → gg_M → Prop) : Prop :=
  gg_loop (fun (s : Int64 × Int32 × gg_M) k57 => b_X10_digest_c57  s.1 s.2.1 s.2.2  k57 Q) (a1, a3, u)
set_option maxRecDepth 10000 in
theorem m_X10_digest_c57 {a1 : Int64} {a3 : Int32} {u : gg_M}  {G : gg_T} {Q : Int64 → gg_M → Prop} (hG : gg_Cl none cX10_digest 5 RX10 (some .long) 11 (gg_eJ Q) G)  (h : w_X10_digest_c57 a1 a3 u  Q)   : G 57 [some (.ref 0), some (.long a1), none, some (.int a3), none] [] u :=
  gg_loop_use (P := fun s : Int64 × Int32 × gg_M => G 57 [some (.ref 0), some (.long s.1), none, some (.int s.2.1), none] [] s.2.2) h (fun s rc hb hr => mb_X10_digest_c57 hG  hb   hr)
def b_X10_digest_c6  (a1 : Int64) (a3 : Int32) (u : gg_M)  (k6 : Int64 × Int32 × gg_M → Prop) (Q : Int64 → gg_M → Prop) : Prop :=
  (8 ≤ a3 →
   w_X10_fault 0 u (fun v51 u50 =>
   w_X10_fault 1 u50 (fun v53 u52 =>
   ∀ v54 : Int64, v54 = (((31 : Int64) * (((31 : Int64) * a1) + v51.toInt64)) + v53.toInt64) →
   w_X10_digest_c57 v54 0 u52 Q))) ∧
  (¬ 8 ≤ a3 →
   w_X10_count a3 u (fun v56 u55 =>
   ∀ v57 : Int64, v57 = (((31 : Int64) * a1) + v56.toInt64) →
   k6 (v57, (a3 + 1), u55)))
set_option maxRecDepth 10000 in
theorem mb_X10_digest_c6  {a1 : Int64} {a3 : Int32} {u : gg_M}  {k6 : Int64 × Int32 × gg_M → Prop} {G : gg_T} {Q : Int64 → gg_M → Prop} (hG : gg_Cl none cX10_digest 5 RX10 (some .long) 11 (gg_eJ Q) G)  (h : b_X10_digest_c6 a1 a3 u k6 Q)   (hk6 : ∀ s : Int64 × Int32 × gg_M, k6 s → G 6 [some (.ref 0), some (.long s.1), none, some (.int s.2.1), none] [] s.2.2) : G 6 [some (.ref 0), some (.long a1), none, some (.int a3), none] [] u := by
  unfold b_X10_digest_c6 at h
  refine gg_iload_n hG dX10_digest_6 rfl rfl ?_
  refine gg_bipush (v := 8) hG dX10_digest_7 (by decide) ?_
  refine gg_ic_ge (tgt := 31) hG dX10_digest_9 (by decide) (fun c49 => ?_) (fun c49 => ?_)
  · replace h := h.1 c49
    refine gg_ldc2 hG dX10_digest_31 fc_RX10_306 ?_
    refine gg_ldc2 hG dX10_digest_34 fc_RX10_306 ?_
    refine gg_lload_n hG dX10_digest_37 rfl rfl ?_
    refine gg_lmul hG dX10_digest_38 ?_
    refine gg_aload_n hG dX10_digest_39 rfl rfl ?_
    refine gg_iconst (v := 0) hG dX10_digest_40 (by decide) ?_
    refine gg_xv (As := [.int 0]) (st := [.long ((31 : Int64) * a1), .long 31]) hG dX10_digest_41 ml_RX10_311 Y_X10_fault YV_X10_fault (by decide) ⟨_, rfl, rfl⟩ (mt_X10_fault h) rfl (by decide) (Nat.le_of_ble_eq_true rfl) rfl (gg_ki (fun v51 u50 h => ?_))
    refine gg_i2l hG dX10_digest_44 ?_
    refine gg_ladd hG dX10_digest_45 ?_
    refine gg_lmul hG dX10_digest_46 ?_
    refine gg_aload_n hG dX10_digest_47 rfl rfl ?_
    refine gg_iconst (v := 1) hG dX10_digest_48 (by decide) ?_
    refine gg_xv (As := [.int 1]) (st := [.long ((31 : Int64) * (((31 : Int64) * a1) + v51.toInt64))]) hG dX10_digest_49 ml_RX10_311 Y_X10_fault YV_X10_fault (by decide) ⟨_, rfl, rfl⟩ (mt_X10_fault h) rfl (by decide) (Nat.le_of_ble_eq_true rfl) rfl (gg_ki (fun v53 u52 h => ?_))
    refine gg_i2l hG dX10_digest_52 ?_
    refine gg_ladd hG dX10_digest_53 ?_
    refine gg_nl (fun v54 e54 => ?_)
    replace h := h v54 e54
    refine gg_lstore_n (L1 := [some (.ref 0), some (.long v54), none, some (.int a3), none]) hG dX10_digest_54 rfl (by decide) rfl ?_
    refine gg_iconst (v := 0) hG dX10_digest_55 (by decide) ?_
    refine gg_istore_n (L1 := [some (.ref 0), some (.long v54), none, some (.int 0), none]) hG dX10_digest_56 rfl (by decide) rfl ?_
    exact m_X10_digest_c57 hG h
  · replace h := h.2 c49
    refine gg_ldc2 hG dX10_digest_12 fc_RX10_306 ?_
    refine gg_lload_n hG dX10_digest_15 rfl rfl ?_
    refine gg_lmul hG dX10_digest_16 ?_
    refine gg_aload_n hG dX10_digest_17 rfl rfl ?_
    refine gg_iload_n hG dX10_digest_18 rfl rfl ?_
    refine gg_xv (As := [.int a3]) (st := [.long ((31 : Int64) * a1)]) hG dX10_digest_19 ml_RX10_308 Y_X10_count YV_X10_count (by decide) ⟨_, rfl, rfl⟩ (mt_X10_count h) rfl (by decide) (Nat.le_of_ble_eq_true rfl) rfl (gg_ki (fun v56 u55 h => ?_))
    refine gg_i2l hG dX10_digest_22 ?_
    refine gg_ladd hG dX10_digest_23 ?_
    refine gg_nl (fun v57 e57 => ?_)
    replace h := h v57 e57
    refine gg_lstore_n (L1 := [some (.ref 0), some (.long v57), none, some (.int a3), none]) hG dX10_digest_24 rfl (by decide) rfl ?_
    refine gg_iinc (v := (a3 + 1)) (L1 := [some (.ref 0), some (.long v57), none, some (.int (a3 + 1)), none]) hG dX10_digest_25 rfl rfl (by decide) rfl ?_
    refine gg_goto (tgt := 6) hG dX10_digest_28 (by decide) ?_
    exact hk6 _ h
def w_X10_digest_c6 (a1 : Int64) (a3 : Int32) (u : gg_M)  (Q : Int64 → gg_M → Prop) : Prop :=
  gg_loop (fun (s : Int64 × Int32 × gg_M) k6 => b_X10_digest_c6  s.1 s.2.1 s.2.2  k6 Q) (a1, a3, u)
set_option maxRecDepth 10000 in
theorem m_X10_digest_c6 {a1 : Int64} {a3 : Int32} {u : gg_M}  {G : gg_T} {Q : Int64 → gg_M → Prop} (hG : gg_Cl none cX10_digest 5 RX10 (some .long) 11 (gg_eJ Q) G)  (h : w_X10_digest_c6 a1 a3 u  Q)   : G 6 [some (.ref 0), some (.long a1), none, some (.int a3), none] [] u :=
  gg_loop_use (P := fun s : Int64 × Int32 × gg_M => G 6 [some (.ref 0), some (.long s.1), none, some (.int s.2.1), none] [] s.2.2) h (fun s rc hb hr => mb_X10_digest_c6 hG  hb   hr)
def w_X10_digest  (u : gg_M)  (Q : Int64 → gg_M → Prop) : Prop :=
  w_X10_digest_c6 17 0 u Q
set_option maxRecDepth 10000 in
theorem m_X10_digest  {u : gg_M}  {G : gg_T} {Q : Int64 → gg_M → Prop} (hG : gg_Cl none cX10_digest 5 RX10 (some .long) 11 (gg_eJ Q) G)  (h : w_X10_digest  u  Q)   : G 0 [some (.ref 0), none, none, none, none] [] u := by
  unfold w_X10_digest at h
  refine gg_ldc2 hG dX10_digest_0 fc_RX10_304 ?_
  refine gg_lstore_n (L1 := [some (.ref 0), some (.long 17), none, none, none]) hG dX10_digest_3 rfl (by decide) rfl ?_
  refine gg_iconst (v := 0) hG dX10_digest_4 (by decide) ?_
  refine gg_istore_n (L1 := [some (.ref 0), some (.long 17), none, some (.int 0), none]) hG dX10_digest_5 rfl (by decide) rfl ?_
  exact m_X10_digest_c6 hG h
theorem mt_X10_digest   {u : gg_M} {Q : Int64 → gg_M → Prop} (h : w_X10_digest  u Q) : gg_Mt 11 yX10_digest cX10_digest 5 (some .long) [.ref 0] u (gg_eJ Q) :=
  gg_intro (own := RX10) (by decide +kernel) rfl rfl (Nat.le_of_ble_eq_true rfl) (fun G hG => m_X10_digest hG  h)
/-! X11_in -/
def w_X11_in_c15 (z0 : Int32) (u : gg_M)  (Q : Int32 → gg_M → Prop) : Prop :=
  (z0 = 0 ∨ z0 = 1) ∧
  Q z0 u
set_option maxRecDepth 10000 in
theorem m_X11_in_c15 {z0 : Int32} {u : gg_M}  {G : gg_T} {Q : Int32 → gg_M → Prop} (hG : gg_Cl none cX11_in 3 RX11 (some .boolean) 1 (gg_eI Q) G)  (h : w_X11_in_c15 z0 u  Q)   : G 15 [none, none, none] [.int z0] u := by
  unfold w_X11_in_c15 at h
  obtain ⟨h1, h⟩ := h
  exact gg_iret hG dX11_in_15 rfl (gg_nb h1).1 ⟨_, rfl, h⟩
def w_X11_in_c14  (u : gg_M)  (Q : Int32 → gg_M → Prop) : Prop :=
  w_X11_in_c15 0 u Q
set_option maxRecDepth 10000 in
theorem m_X11_in_c14  {u : gg_M}  {G : gg_T} {Q : Int32 → gg_M → Prop} (hG : gg_Cl none cX11_in 3 RX11 (some .boolean) 1 (gg_eI Q) G)  (h : w_X11_in_c14  u  Q)   : G 14 [none, none, none] [] u := by
  unfold w_X11_in_c14 at h
  refine gg_iconst (v := 0) hG dX11_in_14 (by decide) ?_
  exact m_X11_in_c15 hG h
def w_X11_in (a0 : Int32) (a1 : Int32) (a2 : Int32) (u : gg_M)  (Q : Int32 → gg_M → Prop) : Prop :=
  (a0 < a1 →
   w_X11_in_c14 u Q) ∧
  (¬ a0 < a1 →
   (a2 < a0 →
    w_X11_in_c14 u Q) ∧
   (¬ a2 < a0 →
    w_X11_in_c15 1 u Q))
set_option maxRecDepth 10000 in
theorem m_X11_in {a0 : Int32} {a1 : Int32} {a2 : Int32} {u : gg_M}  {G : gg_T} {Q : Int32 → gg_M → Prop} (hG : gg_Cl none cX11_in 3 RX11 (some .boolean) 1 (gg_eI Q) G)  (h : w_X11_in a0 a1 a2 u  Q)   : G 0 [some (.int a0), some (.int a1), some (.int a2)] [] u := by
  unfold w_X11_in at h
  refine gg_iload_n hG dX11_in_0 rfl rfl ?_
  refine gg_iload_n hG dX11_in_1 rfl rfl ?_
  refine gg_ic_lt (tgt := 14) hG dX11_in_2 (by decide) (fun c2 => ?_) (fun c2 => ?_)
  · replace h := h.1 c2
    refine gg_mk hG [false, false, false] rfl ?_
    exact m_X11_in_c14 hG h
  · replace h := h.2 c2
    refine gg_iload_n hG dX11_in_5 rfl rfl ?_
    refine gg_iload_n hG dX11_in_6 rfl rfl ?_
    refine gg_ic_gt (tgt := 14) hG dX11_in_7 (by decide) (fun c3 => ?_) (fun c3 => ?_)
    · replace h := h.1 c3
      refine gg_mk hG [false, false, false] rfl ?_
      exact m_X11_in_c14 hG h
    · replace h := h.2 c3
      refine gg_iconst (v := 1) hG dX11_in_10 (by decide) ?_
      refine gg_goto (tgt := 15) hG dX11_in_11 (by decide) ?_
      refine gg_mk hG [false, false, false] rfl ?_
      exact m_X11_in_c15 hG h
theorem mt_X11_in {a0 : Int32} {a1 : Int32} {a2 : Int32}  {u : gg_M} {Q : Int32 → gg_M → Prop} (h : w_X11_in a0 a1 a2 u Q) : gg_Mt 1 yX11_in cX11_in 3 (some .boolean) [.int a0, .int a1, .int a2] u (gg_eI Q) :=
  gg_intro (own := RX11) (by decide +kernel) rfl rfl (Nat.le_of_ble_eq_true rfl) (fun G hG => m_X11_in hG  h)
/-! X11_isIn -/
def w_X11_isIn_c14 (z0 : Int32) (u : gg_M)  (Q : Int32 → gg_M → Prop) : Prop :=
  (z0 = 0 ∨ z0 = 1) ∧
  Q z0 u
set_option maxRecDepth 10000 in
theorem m_X11_isIn_c14 {z0 : Int32} {u : gg_M}  {G : gg_T} {Q : Int32 → gg_M → Prop} (hG : gg_Cl none cX11_isIn 2 RX11 (some .boolean) 1 (gg_eI Q) G)  (h : w_X11_isIn_c14 z0 u  Q)   : G 14 [none, none] [.int z0] u := by
  unfold w_X11_isIn_c14 at h
  obtain ⟨h1, h⟩ := h
  exact gg_iret hG dX11_isIn_14 rfl (gg_nb h1).1 ⟨_, rfl, h⟩
def w_X11_isIn (a0 : Int32) (a1 : Int32) (u : gg_M)  (Q : Int32 → gg_M → Prop) : Prop :=
  (¬ ((a0 >>> (a1 &&& 31)) &&& 1) = 1 →
   w_X11_isIn_c14 0 u Q) ∧
  (((a0 >>> (a1 &&& 31)) &&& 1) = 1 →
   w_X11_isIn_c14 1 u Q)
set_option maxRecDepth 10000 in
theorem m_X11_isIn {a0 : Int32} {a1 : Int32} {u : gg_M}  {G : gg_T} {Q : Int32 → gg_M → Prop} (hG : gg_Cl none cX11_isIn 2 RX11 (some .boolean) 1 (gg_eI Q) G)  (h : w_X11_isIn a0 a1 u  Q)   : G 0 [some (.int a0), some (.int a1)] [] u := by
  unfold w_X11_isIn at h
  refine gg_iload_n hG dX11_isIn_0 rfl rfl ?_
  refine gg_iload_n hG dX11_isIn_1 rfl rfl ?_
  refine gg_ishr hG dX11_isIn_2 ?_
  refine gg_iconst (v := 1) hG dX11_isIn_3 (by decide) ?_
  refine gg_iand hG dX11_isIn_4 ?_
  refine gg_iconst (v := 1) hG dX11_isIn_5 (by decide) ?_
  refine gg_ic_ne (tgt := 13) hG dX11_isIn_6 (by decide) (fun c2 => ?_) (fun c2 => ?_)
  · replace h := h.1 c2
    refine gg_iconst (v := 0) hG dX11_isIn_13 (by decide) ?_
    refine gg_mk hG [false, false] rfl ?_
    exact m_X11_isIn_c14 hG h
  · replace h := h.2 c2
    refine gg_iconst (v := 1) hG dX11_isIn_9 (by decide) ?_
    refine gg_goto (tgt := 14) hG dX11_isIn_10 (by decide) ?_
    refine gg_mk hG [false, false] rfl ?_
    exact m_X11_isIn_c14 hG h
theorem mt_X11_isIn {a0 : Int32} {a1 : Int32}  {u : gg_M} {Q : Int32 → gg_M → Prop} (h : w_X11_isIn a0 a1 u Q) : gg_Mt 1 yX11_isIn cX11_isIn 2 (some .boolean) [.int a0, .int a1] u (gg_eI Q) :=
  gg_intro (own := RX11) (by decide +kernel) rfl rfl (Nat.le_of_ble_eq_true rfl) (fun G hG => m_X11_isIn hG  h)
/-! X11_amount -/
def w_X11_amount_c10 (z0 : Int32) (u : gg_M)  (Q : Int32 → gg_M → Prop) : Prop :=
  Q z0 u
set_option maxRecDepth 10000 in
theorem m_X11_amount_c10 {z0 : Int32} {u : gg_M}  {G : gg_T} {Q : Int32 → gg_M → Prop} (hG : gg_Cl none cX11_amount 1 RX11 (some .int) 1 (gg_eI Q) G)  (h : w_X11_amount_c10 z0 u  Q)   : G 10 [none] [.int z0] u := by
  unfold w_X11_amount_c10 at h
  exact gg_iret hG dX11_amount_10 rfl rfl ⟨_, rfl, h⟩
def w_X11_amount (a0 : Int32) (u : gg_M)  (Q : Int32 → gg_M → Prop) : Prop :=
  (0 ≤ a0 →
   w_X11_amount_c10 a0 u Q) ∧
  (¬ 0 ≤ a0 →
   w_X11_amount_c10 (-a0) u Q)
set_option maxRecDepth 10000 in
theorem m_X11_amount {a0 : Int32} {u : gg_M}  {G : gg_T} {Q : Int32 → gg_M → Prop} (hG : gg_Cl none cX11_amount 1 RX11 (some .int) 1 (gg_eI Q) G)  (h : w_X11_amount a0 u  Q)   : G 0 [some (.int a0)] [] u := by
  unfold w_X11_amount at h
  refine gg_iload_n hG dX11_amount_0 rfl rfl ?_
  refine gg_if_ge (tgt := 9) hG dX11_amount_1 (by decide) (fun c1 => ?_) (fun c1 => ?_)
  · replace h := h.1 c1
    refine gg_iload_n hG dX11_amount_9 rfl rfl ?_
    refine gg_mk hG [false] rfl ?_
    exact m_X11_amount_c10 hG h
  · replace h := h.2 c1
    refine gg_iload_n hG dX11_amount_4 rfl rfl ?_
    refine gg_ineg hG dX11_amount_5 ?_
    refine gg_goto (tgt := 10) hG dX11_amount_6 (by decide) ?_
    refine gg_mk hG [false] rfl ?_
    exact m_X11_amount_c10 hG h
theorem mt_X11_amount {a0 : Int32}  {u : gg_M} {Q : Int32 → gg_M → Prop} (h : w_X11_amount a0 u Q) : gg_Mt 1 yX11_amount cX11_amount 1 (some .int) [.int a0] u (gg_eI Q) :=
  gg_intro (own := RX11) (by decide +kernel) rfl rfl (Nat.le_of_ble_eq_true rfl) (fun G hG => m_X11_amount hG  h)
/-! X11_no -/
def w_X11_no (a0 : Int32) (u : gg_M)  (Q : Int64 → gg_M → Prop) : Prop :=
  Q (((-9223372036854775808) : Int64) - a0.toInt64) u
set_option maxRecDepth 10000 in
theorem m_X11_no {a0 : Int32} {u : gg_M}  {G : gg_T} {Q : Int64 → gg_M → Prop} (hG : gg_Cl none cX11_no 1 RX11 (some .long) 1 (gg_eJ Q) G)  (h : w_X11_no a0 u  Q)   : G 0 [some (.int a0)] [] u := by
  unfold w_X11_no at h
  refine gg_ldc2 hG dX11_no_0 fc_RX11_66 ?_
  refine gg_iload_n hG dX11_no_3 rfl rfl ?_
  refine gg_i2l hG dX11_no_4 ?_
  refine gg_lsub hG dX11_no_5 ?_
  exact gg_lret hG dX11_no_6 rfl ⟨_, rfl, h⟩
theorem mt_X11_no {a0 : Int32}  {u : gg_M} {Q : Int64 → gg_M → Prop} (h : w_X11_no a0 u Q) : gg_Mt 1 yX11_no cX11_no 1 (some .long) [.int a0] u (gg_eJ Q) :=
  gg_intro (own := RX11) (by decide +kernel) rfl rfl (Nat.le_of_ble_eq_true rfl) (fun G hG => m_X11_no hG  h)
/-! X11_lowest -/
def w_X11_lowest_c47 (z0 : Int64) (u : gg_M)  (Q : Int64 → gg_M → Prop) : Prop :=
  Q z0 u
set_option maxRecDepth 10000 in
theorem m_X11_lowest_c47 {z0 : Int64} {u : gg_M}  {G : gg_T} {Q : Int64 → gg_M → Prop} (hG : gg_Cl none cX11_lowest 11 RX11 (some .long) 1 (gg_eJ Q) G)  (h : w_X11_lowest_c47 z0 u  Q)   : G 47 [none, none, none, none, none, none, none, none, none, none, none] [.long z0] u := by
  unfold w_X11_lowest_c47 at h
  exact gg_lret hG dX11_lowest_47 rfl ⟨_, rfl, h⟩
def b_X11_lowest_c6 (a0 : Int64) (a2 : Int64) (a4 : Int32) (a5 : Int64) (a7 : Int64) (u : gg_M)  (k6 : Int64 × Int64 × gg_M → Prop) (Q : Int64 → gg_M → Prop) : Prop :=
  ((lg_cmp a7 0) = 0 →
   (¬ a4 = 0 →
    ¬ a5 = 0 ∧
    w_X11_lowest_c47 (a2 / a5) u Q) ∧
   (a4 = 0 →
    ¬ a5 = 0 ∧
    w_X11_lowest_c47 (a0 / a5) u Q)) ∧
  (¬ (lg_cmp a7 0) = 0 →
   ¬ a7 = 0 ∧
   ∀ v6 : Int64, v6 = (a5 - a5 / a7 * a7) →
   k6 (a7, v6, u))
set_option maxRecDepth 10000 in
theorem mb_X11_lowest_c6 {a0 : Int64} {a2 : Int64} {a4 : Int32} {a5 : Int64} {a7 : Int64} {u : gg_M}  {k6 : Int64 × Int64 × gg_M → Prop} {G : gg_T} {Q : Int64 → gg_M → Prop} (hG : gg_Cl none cX11_lowest 11 RX11 (some .long) 1 (gg_eJ Q) G)  (h : b_X11_lowest_c6 a0 a2 a4 a5 a7 u k6 Q)   (hk6 : ∀ s : Int64 × Int64 × gg_M, k6 s → G 6 [some (.long a0), none, some (.long a2), none, some (.int a4), some (.long s.1), none, some (.long s.2.1), none, none, none] [] s.2.2) : G 6 [some (.long a0), none, some (.long a2), none, some (.int a4), some (.long a5), none, some (.long a7), none, none, none] [] u := by
  unfold b_X11_lowest_c6 at h
  refine gg_lload hG dX11_lowest_6 rfl ?_
  refine gg_lconst (v := 0) hG dX11_lowest_8 (by decide) ?_
  refine gg_lcmp hG dX11_lowest_9 ?_
  refine gg_if_eq (tgt := 31) hG dX11_lowest_10 (by decide) (fun c1 => ?_) (fun c1 => ?_)
  · replace h := h.1 c1
    refine gg_iload hG dX11_lowest_31 rfl ?_
    refine gg_if_ne (tgt := 43) hG dX11_lowest_33 (by decide) (fun c2 => ?_) (fun c2 => ?_)
    · replace h := h.1 c2
      refine gg_lload_n hG dX11_lowest_43 rfl rfl ?_
      refine gg_lload hG dX11_lowest_44 rfl ?_
      obtain ⟨h3, h⟩ := h
      refine gg_ldiv hG dX11_lowest_46 h3 ?_
      refine gg_mk hG [false, false, false, false, false, false, false, false, false, false, false] rfl ?_
      exact m_X11_lowest_c47 hG h
    · replace h := h.2 c2
      refine gg_lload_n hG dX11_lowest_36 rfl rfl ?_
      refine gg_lload hG dX11_lowest_37 rfl ?_
      obtain ⟨h4, h⟩ := h
      refine gg_ldiv hG dX11_lowest_39 h4 ?_
      refine gg_goto (tgt := 47) hG dX11_lowest_40 (by decide) ?_
      refine gg_mk hG [false, false, false, false, false, false, false, false, false, false, false] rfl ?_
      exact m_X11_lowest_c47 hG h
  · replace h := h.2 c1
    refine gg_lload hG dX11_lowest_13 rfl ?_
    refine gg_lload hG dX11_lowest_15 rfl ?_
    obtain ⟨h5, h⟩ := h
    refine gg_lrem hG dX11_lowest_17 h5 ?_
    refine gg_nl (fun v6 e6 => ?_)
    replace h := h v6 e6
    refine gg_lstore (L1 := [some (.long a0), none, some (.long a2), none, some (.int a4), some (.long a5), none, some (.long a7), none, some (.long v6), none]) hG dX11_lowest_18 (by decide) rfl ?_
    refine gg_lload hG dX11_lowest_20 rfl ?_
    refine gg_lstore (L1 := [some (.long a0), none, some (.long a2), none, some (.int a4), some (.long a7), none, some (.long a7), none, some (.long v6), none]) hG dX11_lowest_22 (by decide) rfl ?_
    refine gg_lload hG dX11_lowest_24 rfl ?_
    refine gg_lstore (L1 := [some (.long a0), none, some (.long a2), none, some (.int a4), some (.long a7), none, some (.long v6), none, some (.long v6), none]) hG dX11_lowest_26 (by decide) rfl ?_
    refine gg_goto (tgt := 6) hG dX11_lowest_28 (by decide) ?_
    refine gg_mk hG [true, false, true, false, true, true, false, true, false, false, false] rfl ?_
    exact hk6 _ h
def w_X11_lowest_c6 (a0 : Int64) (a2 : Int64) (a4 : Int32) (a5 : Int64) (a7 : Int64) (u : gg_M)  (Q : Int64 → gg_M → Prop) : Prop :=
  gg_loop (fun (s : Int64 × Int64 × gg_M) k6 => b_X11_lowest_c6 a0 a2 a4 s.1 s.2.1 s.2.2  k6 Q) (a5, a7, u)
set_option maxRecDepth 10000 in
theorem m_X11_lowest_c6 {a0 : Int64} {a2 : Int64} {a4 : Int32} {a5 : Int64} {a7 : Int64} {u : gg_M}  {G : gg_T} {Q : Int64 → gg_M → Prop} (hG : gg_Cl none cX11_lowest 11 RX11 (some .long) 1 (gg_eJ Q) G)  (h : w_X11_lowest_c6 a0 a2 a4 a5 a7 u  Q)   : G 6 [some (.long a0), none, some (.long a2), none, some (.int a4), some (.long a5), none, some (.long a7), none, none, none] [] u :=
  gg_loop_use (P := fun s : Int64 × Int64 × gg_M => G 6 [some (.long a0), none, some (.long a2), none, some (.int a4), some (.long s.1), none, some (.long s.2.1), none, none, none] [] s.2.2) h (fun s rc hb hr => mb_X11_lowest_c6 hG  hb   hr)
def w_X11_lowest (a0 : Int64) (a2 : Int64) (a4 : Int32) (u : gg_M)  (Q : Int64 → gg_M → Prop) : Prop :=
  w_X11_lowest_c6 a0 a2 a4 a0 a2 u Q
set_option maxRecDepth 10000 in
theorem m_X11_lowest {a0 : Int64} {a2 : Int64} {a4 : Int32} {u : gg_M}  {G : gg_T} {Q : Int64 → gg_M → Prop} (hG : gg_Cl none cX11_lowest 11 RX11 (some .long) 1 (gg_eJ Q) G)  (h : w_X11_lowest a0 a2 a4 u  Q)   : G 0 [some (.long a0), none, some (.long a2), none, some (.int a4), none, none, none, none, none, none] [] u := by
  unfold w_X11_lowest at h
  refine gg_lload_n hG dX11_lowest_0 rfl rfl ?_
  refine gg_lstore (L1 := [some (.long a0), none, some (.long a2), none, some (.int a4), some (.long a0), none, none, none, none, none]) hG dX11_lowest_1 (by decide) rfl ?_
  refine gg_lload_n hG dX11_lowest_3 rfl rfl ?_
  refine gg_lstore (L1 := [some (.long a0), none, some (.long a2), none, some (.int a4), some (.long a0), none, some (.long a2), none, none, none]) hG dX11_lowest_4 (by decide) rfl ?_
  exact m_X11_lowest_c6 hG h
theorem mt_X11_lowest {a0 : Int64} {a2 : Int64} {a4 : Int32}  {u : gg_M} {Q : Int64 → gg_M → Prop} (h : w_X11_lowest a0 a2 a4 u Q) : gg_Mt 1 yX11_lowest cX11_lowest 11 (some .long) [.long a0, .long a2, .int a4] u (gg_eJ Q) :=
  gg_intro (own := RX11) (by decide +kernel) rfl rfl (Nat.le_of_ble_eq_true rfl) (fun G hG => m_X11_lowest hG  h)
/-! X11_isText -/
def w_X11_isText (a0 : Int32) (u : gg_M)  (Q : Int32 → gg_M → Prop) : Prop :=
  w_X11_in a0 0 1 u (fun v2 u1 =>
  (v2 = 0 ∨ v2 = 1) ∧
  Q v2 u1)
set_option maxRecDepth 10000 in
theorem m_X11_isText {a0 : Int32} {u : gg_M}  {G : gg_T} {Q : Int32 → gg_M → Prop} (hG : gg_Cl none cX11_isText 1 RX11 (some .boolean) 2 (gg_eI Q) G)  (h : w_X11_isText a0 u  Q)   : G 0 [some (.int a0)] [] u := by
  unfold w_X11_isText at h
  refine gg_iload_n hG dX11_isText_0 rfl rfl ?_
  refine gg_iconst (v := 0) hG dX11_isText_1 (by decide) ?_
  refine gg_iconst (v := 1) hG dX11_isText_2 (by decide) ?_
  refine gg_xs (As := [.int a0, .int 0, .int 1]) (st := []) hG dX11_isText_3 ml_RX11_68 Y_X11_in YS_X11_in (mt_X11_in h) rfl (by decide) (Nat.le_of_ble_eq_true rfl) rfl (gg_ki (fun v2 u1 h => ?_))
  obtain ⟨h3, h⟩ := h
  exact gg_iret hG dX11_isText_6 rfl (gg_nb h3).1 ⟨_, rfl, h⟩
theorem mt_X11_isText {a0 : Int32}  {u : gg_M} {Q : Int32 → gg_M → Prop} (h : w_X11_isText a0 u Q) : gg_Mt 2 yX11_isText cX11_isText 1 (some .boolean) [.int a0] u (gg_eI Q) :=
  gg_intro (own := RX11) (by decide +kernel) rfl rfl (Nat.le_of_ble_eq_true rfl) (fun G hG => m_X11_isText hG  h)
/-! X11_type -/
def w_X11_type_c38 (a1 : Int32) (a2 : Int32) (z0 : Int32) (z1 : Int32) (u : gg_M)  (Q : Int32 → gg_M → Prop) : Prop :=
  (¬ z0 = z1 →
   vp_in a1 2 ∧
   vp_in (((60 : Int32) * a1) + (u.1 48 a1.toNatClampNeg)) 120 ∧
   ∀ u4 : gg_M, u4 = gg_wI u 47 ((((60 : Int32) * a1) + (u.1 48 a1.toNatClampNeg)).toNatClampNeg) a2 →
   vp_in a1 2 ∧
   vp_in a1 2 ∧
   ∀ u7 : gg_M, u7 = gg_wI u4 48 a1.toNatClampNeg ((u4.1 48 a1.toNatClampNeg) + 1) →
   vp_in a1 2 ∧
   Q (u7.1 48 a1.toNatClampNeg) u7) ∧
  (z0 = z1 →
   Q (-4) u)
set_option maxRecDepth 10000 in
theorem m_X11_type_c38 {a1 : Int32} {a2 : Int32} {z0 : Int32} {z1 : Int32} {u : gg_M}  {G : gg_T} {Q : Int32 → gg_M → Prop} (hG : gg_Cl none cX11_type 3 RX11 (some .int) 3 (gg_eI Q) G)  (h : w_X11_type_c38 a1 a2 z0 z1 u  Q)   : G 38 [some (.ref 1), some (.int a1), some (.int a2)] [.int z1, .int z0] u := by
  unfold w_X11_type_c38 at h
  refine gg_ic_ne (tgt := 44) hG dX11_type_38 (by decide) (fun c1 => ?_) (fun c1 => ?_)
  · replace h := h.1 c1
    refine gg_aload_n hG dX11_type_44 rfl rfl ?_
    refine gg_get (v := .ref 47) hG dX11_type_45 (by decide) rfl fl_RX11_7 rfl ?_
    refine gg_bipush (v := 60) hG dX11_type_48 (by decide) ?_
    refine gg_iload_n hG dX11_type_50 rfl rfl ?_
    refine gg_imul hG dX11_type_51 ?_
    refine gg_aload_n hG dX11_type_52 rfl rfl ?_
    refine gg_get (v := .ref 48) hG dX11_type_53 (by decide) rfl fl_RX11_13 rfl ?_
    refine gg_iload_n hG dX11_type_56 rfl rfl ?_
    obtain ⟨h2, h⟩ := h
    refine gg_iald (j := a1.toNatClampNeg) hG dX11_type_57 (by decide) rfl h2 rfl ?_
    refine gg_iadd hG dX11_type_58 ?_
    refine gg_iload_n hG dX11_type_59 rfl rfl ?_
    obtain ⟨h3, h⟩ := h
    refine gg_iast (j := (((60 : Int32) * a1) + (u.1 48 a1.toNatClampNeg)).toNatClampNeg) hG dX11_type_60 (by decide) rfl h3 rfl ?_
    refine gg_nu (fun u4 eu4 => ?_)
    replace h := h u4 eu4
    refine gg_aload_n hG dX11_type_61 rfl rfl ?_
    refine gg_get (v := .ref 48) hG dX11_type_62 (by decide) rfl fl_RX11_13 rfl ?_
    refine gg_iload_n hG dX11_type_65 rfl rfl ?_
    refine gg_dup2 hG dX11_type_66 rfl rfl ?_
    obtain ⟨h5, h⟩ := h
    refine gg_iald (j := a1.toNatClampNeg) hG dX11_type_67 (by decide) rfl h5 rfl ?_
    refine gg_iconst (v := 1) hG dX11_type_68 (by decide) ?_
    refine gg_iadd hG dX11_type_69 ?_
    obtain ⟨h6, h⟩ := h
    refine gg_iast (j := a1.toNatClampNeg) hG dX11_type_70 (by decide) rfl h6 rfl ?_
    refine gg_nu (fun u7 eu7 => ?_)
    replace h := h u7 eu7
    refine gg_aload_n hG dX11_type_71 rfl rfl ?_
    refine gg_get (v := .ref 48) hG dX11_type_72 (by decide) rfl fl_RX11_13 rfl ?_
    refine gg_iload_n hG dX11_type_75 rfl rfl ?_
    obtain ⟨h8, h⟩ := h
    refine gg_iald (j := a1.toNatClampNeg) hG dX11_type_76 (by decide) rfl h8 rfl ?_
    exact gg_iret hG dX11_type_77 rfl rfl ⟨_, rfl, h⟩
  · replace h := h.2 c1
    refine gg_bipush (v := (-4)) hG dX11_type_41 (by decide) ?_
    exact gg_iret hG dX11_type_43 rfl rfl ⟨_, rfl, h⟩
def w_X11_type_c18  (u : gg_M)  (Q : Int32 → gg_M → Prop) : Prop :=
  Q (-2) u
set_option maxRecDepth 10000 in
theorem m_X11_type_c18  {u : gg_M}  {G : gg_T} {Q : Int32 → gg_M → Prop} (hG : gg_Cl none cX11_type 3 RX11 (some .int) 3 (gg_eI Q) G)  (h : w_X11_type_c18  u  Q)   : G 18 [none, none, none] [] u := by
  unfold w_X11_type_c18 at h
  refine gg_bipush (v := (-2)) hG dX11_type_18 (by decide) ?_
  exact gg_iret hG dX11_type_20 rfl rfl ⟨_, rfl, h⟩
def w_X11_type (a1 : Int32) (a2 : Int32) (u : gg_M)  (Q : Int32 → gg_M → Prop) : Prop :=
  w_X11_isText a1 u (fun v10 u9 =>
  (v10 = 0 →
   w_X11_type_c18 u9 Q) ∧
  (¬ v10 = 0 →
   w_X11_in a2 0 255 u9 (fun v13 u12 =>
   (¬ v13 = 0 →
    vp_in a1 2 ∧
    (¬ a1 = 0 →
     w_X11_type_c38 a1 a2 (u12.1 48 a1.toNatClampNeg) 40 u12 Q) ∧
    (a1 = 0 →
     w_X11_type_c38 a1 a2 (u12.1 48 a1.toNatClampNeg) 60 u12 Q)) ∧
   (v13 = 0 →
    w_X11_type_c18 u12 Q))))
set_option maxRecDepth 10000 in
theorem m_X11_type {a1 : Int32} {a2 : Int32} {u : gg_M}  {G : gg_T} {Q : Int32 → gg_M → Prop} (hG : gg_Cl none cX11_type 3 RX11 (some .int) 3 (gg_eI Q) G)  (h : w_X11_type a1 a2 u  Q)   : G 0 [some (.ref 1), some (.int a1), some (.int a2)] [] u := by
  unfold w_X11_type at h
  refine gg_iload_n hG dX11_type_0 rfl rfl ?_
  refine gg_xs (As := [.int a1]) (st := []) hG dX11_type_1 ml_RX11_72 Y_X11_isText YS_X11_isText (mt_X11_isText h) rfl (by decide) (Nat.le_of_ble_eq_true rfl) rfl (gg_ki (fun v10 u9 h => ?_))
  refine gg_if_eq (tgt := 18) hG dX11_type_4 (by decide) (fun c11 => ?_) (fun c11 => ?_)
  · replace h := h.1 c11
    refine gg_mk hG [false, false, false] rfl ?_
    exact m_X11_type_c18 hG h
  · replace h := h.2 c11
    refine gg_iload_n hG dX11_type_7 rfl rfl ?_
    refine gg_iconst (v := 0) hG dX11_type_8 (by decide) ?_
    refine gg_sipush (v := 255) hG dX11_type_9 (by decide) ?_
    refine gg_xs (As := [.int a2, .int 0, .int 255]) (st := []) hG dX11_type_12 ml_RX11_68 Y_X11_in YS_X11_in (mt_X11_in h) rfl (by decide) (Nat.le_of_ble_eq_true rfl) rfl (gg_ki (fun v13 u12 h => ?_))
    refine gg_if_ne (tgt := 21) hG dX11_type_15 (by decide) (fun c14 => ?_) (fun c14 => ?_)
    · replace h := h.1 c14
      refine gg_aload_n hG dX11_type_21 rfl rfl ?_
      refine gg_get (v := .ref 48) hG dX11_type_22 (by decide) rfl fl_RX11_13 rfl ?_
      refine gg_iload_n hG dX11_type_25 rfl rfl ?_
      obtain ⟨h15, h⟩ := h
      refine gg_iald (j := a1.toNatClampNeg) hG dX11_type_26 (by decide) rfl h15 rfl ?_
      refine gg_iload_n hG dX11_type_27 rfl rfl ?_
      refine gg_if_ne (tgt := 36) hG dX11_type_28 (by decide) (fun c16 => ?_) (fun c16 => ?_)
      · replace h := h.1 c16
        refine gg_bipush (v := 40) hG dX11_type_36 (by decide) ?_
        exact m_X11_type_c38 hG h
      · replace h := h.2 c16
        refine gg_bipush (v := 60) hG dX11_type_31 (by decide) ?_
        refine gg_goto (tgt := 38) hG dX11_type_33 (by decide) ?_
        exact m_X11_type_c38 hG h
    · replace h := h.2 c14
      refine gg_mk hG [false, false, false] rfl ?_
      exact m_X11_type_c18 hG h
theorem mt_X11_type {a1 : Int32} {a2 : Int32}  {u : gg_M} {Q : Int32 → gg_M → Prop} (h : w_X11_type a1 a2 u Q) : gg_Mt 3 yX11_type cX11_type 3 (some .int) [.ref 1, .int a1, .int a2] u (gg_eI Q) :=
  gg_intro (own := RX11) (by decide +kernel) rfl rfl (Nat.le_of_ble_eq_true rfl) (fun G hG => m_X11_type hG  h)
/-! X11_wipe -/
def w_X11_wipe (a1 : Int32) (u : gg_M)  (Q : Int32 → gg_M → Prop) : Prop :=
  w_X11_isText a1 u (fun v2 u1 =>
  (¬ v2 = 0 →
   vp_in a1 2 ∧
   ∀ v5 : Int32, v5 = (u1.1 48 a1.toNatClampNeg) →
   vp_in a1 2 ∧
   ∀ u7 : gg_M, u7 = gg_wI u1 48 a1.toNatClampNeg 0 →
   Q v5 u7) ∧
  (v2 = 0 →
   Q (-2) u1))
set_option maxRecDepth 10000 in
theorem m_X11_wipe {a1 : Int32} {u : gg_M}  {G : gg_T} {Q : Int32 → gg_M → Prop} (hG : gg_Cl none cX11_wipe 3 RX11 (some .int) 3 (gg_eI Q) G)  (h : w_X11_wipe a1 u  Q)   : G 0 [some (.ref 1), some (.int a1), none] [] u := by
  unfold w_X11_wipe at h
  refine gg_iload_n hG dX11_wipe_0 rfl rfl ?_
  refine gg_xs (As := [.int a1]) (st := []) hG dX11_wipe_1 ml_RX11_72 Y_X11_isText YS_X11_isText (mt_X11_isText h) rfl (by decide) (Nat.le_of_ble_eq_true rfl) rfl (gg_ki (fun v2 u1 h => ?_))
  refine gg_if_ne (tgt := 10) hG dX11_wipe_4 (by decide) (fun c3 => ?_) (fun c3 => ?_)
  · replace h := h.1 c3
    refine gg_aload_n hG dX11_wipe_10 rfl rfl ?_
    refine gg_get (v := .ref 48) hG dX11_wipe_11 (by decide) rfl fl_RX11_13 rfl ?_
    refine gg_iload_n hG dX11_wipe_14 rfl rfl ?_
    obtain ⟨h4, h⟩ := h
    refine gg_iald (j := a1.toNatClampNeg) hG dX11_wipe_15 (by decide) rfl h4 rfl ?_
    refine gg_ni (fun v5 e5 => ?_)
    replace h := h v5 e5
    refine gg_istore_n (L1 := [some (.ref 1), some (.int a1), some (.int v5)]) hG dX11_wipe_16 rfl (by decide) rfl ?_
    refine gg_aload_n hG dX11_wipe_17 rfl rfl ?_
    refine gg_get (v := .ref 48) hG dX11_wipe_18 (by decide) rfl fl_RX11_13 rfl ?_
    refine gg_iload_n hG dX11_wipe_21 rfl rfl ?_
    refine gg_iconst (v := 0) hG dX11_wipe_22 (by decide) ?_
    obtain ⟨h6, h⟩ := h
    refine gg_iast (j := a1.toNatClampNeg) hG dX11_wipe_23 (by decide) rfl h6 rfl ?_
    refine gg_nu (fun u7 eu7 => ?_)
    replace h := h u7 eu7
    refine gg_iload_n hG dX11_wipe_24 rfl rfl ?_
    exact gg_iret hG dX11_wipe_25 rfl rfl ⟨_, rfl, h⟩
  · replace h := h.2 c3
    refine gg_bipush (v := (-2)) hG dX11_wipe_7 (by decide) ?_
    exact gg_iret hG dX11_wipe_9 rfl rfl ⟨_, rfl, h⟩
theorem mt_X11_wipe {a1 : Int32}  {u : gg_M} {Q : Int32 → gg_M → Prop} (h : w_X11_wipe a1 u Q) : gg_Mt 3 yX11_wipe cX11_wipe 3 (some .int) [.ref 1, .int a1] u (gg_eI Q) :=
  gg_intro (own := RX11) (by decide +kernel) rfl rfl (Nat.le_of_ble_eq_true rfl) (fun G hG => m_X11_wipe hG  h)
/-! X11_byteAt -/
def w_X11_byteAt_c25 (z0 : Int32) (u : gg_M)  (Q : Int32 → gg_M → Prop) : Prop :=
  Q z0 u
set_option maxRecDepth 10000 in
theorem m_X11_byteAt_c25 {z0 : Int32} {u : gg_M}  {G : gg_T} {Q : Int32 → gg_M → Prop} (hG : gg_Cl none cX11_byteAt 3 RX11 (some .int) 1 (gg_eI Q) G)  (h : w_X11_byteAt_c25 z0 u  Q)   : G 25 [none, none, none] [.int z0] u := by
  unfold w_X11_byteAt_c25 at h
  exact gg_iret hG dX11_byteAt_25 rfl rfl ⟨_, rfl, h⟩
def w_X11_byteAt (a1 : Int32) (a2 : Int32) (u : gg_M)  (Q : Int32 → gg_M → Prop) : Prop :=
  vp_in a1 2 ∧
  ((u.1 48 a1.toNatClampNeg) ≤ a2 →
   w_X11_byteAt_c25 (-1) u Q) ∧
  (¬ (u.1 48 a1.toNatClampNeg) ≤ a2 →
   vp_in (((60 : Int32) * a1) + a2) 120 ∧
   w_X11_byteAt_c25 (u.1 47 ((((60 : Int32) * a1) + a2).toNatClampNeg)) u Q)
set_option maxRecDepth 10000 in
theorem m_X11_byteAt {a1 : Int32} {a2 : Int32} {u : gg_M}  {G : gg_T} {Q : Int32 → gg_M → Prop} (hG : gg_Cl none cX11_byteAt 3 RX11 (some .int) 1 (gg_eI Q) G)  (h : w_X11_byteAt a1 a2 u  Q)   : G 0 [some (.ref 1), some (.int a1), some (.int a2)] [] u := by
  unfold w_X11_byteAt at h
  refine gg_iload_n hG dX11_byteAt_0 rfl rfl ?_
  refine gg_aload_n hG dX11_byteAt_1 rfl rfl ?_
  refine gg_get (v := .ref 48) hG dX11_byteAt_2 (by decide) rfl fl_RX11_13 rfl ?_
  refine gg_iload_n hG dX11_byteAt_5 rfl rfl ?_
  obtain ⟨h1, h⟩ := h
  refine gg_iald (j := a1.toNatClampNeg) hG dX11_byteAt_6 (by decide) rfl h1 rfl ?_
  refine gg_ic_ge (tgt := 24) hG dX11_byteAt_7 (by decide) (fun c2 => ?_) (fun c2 => ?_)
  · replace h := h.1 c2
    refine gg_iconst (v := (-1)) hG dX11_byteAt_24 (by decide) ?_
    refine gg_mk hG [false, false, false] rfl ?_
    exact m_X11_byteAt_c25 hG h
  · replace h := h.2 c2
    refine gg_aload_n hG dX11_byteAt_10 rfl rfl ?_
    refine gg_get (v := .ref 47) hG dX11_byteAt_11 (by decide) rfl fl_RX11_7 rfl ?_
    refine gg_bipush (v := 60) hG dX11_byteAt_14 (by decide) ?_
    refine gg_iload_n hG dX11_byteAt_16 rfl rfl ?_
    refine gg_imul hG dX11_byteAt_17 ?_
    refine gg_iload_n hG dX11_byteAt_18 rfl rfl ?_
    refine gg_iadd hG dX11_byteAt_19 ?_
    obtain ⟨h3, h⟩ := h
    refine gg_iald (j := (((60 : Int32) * a1) + a2).toNatClampNeg) hG dX11_byteAt_20 (by decide) rfl h3 rfl ?_
    refine gg_goto (tgt := 25) hG dX11_byteAt_21 (by decide) ?_
    refine gg_mk hG [false, false, false] rfl ?_
    exact m_X11_byteAt_c25 hG h
theorem mt_X11_byteAt {a1 : Int32} {a2 : Int32}  {u : gg_M} {Q : Int32 → gg_M → Prop} (h : w_X11_byteAt a1 a2 u Q) : gg_Mt 1 yX11_byteAt cX11_byteAt 3 (some .int) [.ref 1, .int a1, .int a2] u (gg_eI Q) :=
  gg_intro (own := RX11) (by decide +kernel) rfl rfl (Nat.le_of_ble_eq_true rfl) (fun G hG => m_X11_byteAt hG  h)
/-! X11_isFigure -/
def w_X11_isFigure_c17 (z0 : Int32) (u : gg_M)  (Q : Int32 → gg_M → Prop) : Prop :=
  (z0 = 0 ∨ z0 = 1) ∧
  Q z0 u
set_option maxRecDepth 10000 in
theorem m_X11_isFigure_c17 {z0 : Int32} {u : gg_M}  {G : gg_T} {Q : Int32 → gg_M → Prop} (hG : gg_Cl none cX11_isFigure 1 RX11 (some .boolean) 1 (gg_eI Q) G)  (h : w_X11_isFigure_c17 z0 u  Q)   : G 17 [none] [.int z0] u := by
  unfold w_X11_isFigure_c17 at h
  obtain ⟨h1, h⟩ := h
  exact gg_iret hG dX11_isFigure_17 rfl (gg_nb h1).1 ⟨_, rfl, h⟩
def w_X11_isFigure_c16  (u : gg_M)  (Q : Int32 → gg_M → Prop) : Prop :=
  w_X11_isFigure_c17 0 u Q
set_option maxRecDepth 10000 in
theorem m_X11_isFigure_c16  {u : gg_M}  {G : gg_T} {Q : Int32 → gg_M → Prop} (hG : gg_Cl none cX11_isFigure 1 RX11 (some .boolean) 1 (gg_eI Q) G)  (h : w_X11_isFigure_c16  u  Q)   : G 16 [none] [] u := by
  unfold w_X11_isFigure_c16 at h
  refine gg_iconst (v := 0) hG dX11_isFigure_16 (by decide) ?_
  exact m_X11_isFigure_c17 hG h
def w_X11_isFigure (a0 : Int32) (u : gg_M)  (Q : Int32 → gg_M → Prop) : Prop :=
  (a0 < 48 →
   w_X11_isFigure_c16 u Q) ∧
  (¬ a0 < 48 →
   (57 < a0 →
    w_X11_isFigure_c16 u Q) ∧
   (¬ 57 < a0 →
    w_X11_isFigure_c17 1 u Q))
set_option maxRecDepth 10000 in
theorem m_X11_isFigure {a0 : Int32} {u : gg_M}  {G : gg_T} {Q : Int32 → gg_M → Prop} (hG : gg_Cl none cX11_isFigure 1 RX11 (some .boolean) 1 (gg_eI Q) G)  (h : w_X11_isFigure a0 u  Q)   : G 0 [some (.int a0)] [] u := by
  unfold w_X11_isFigure at h
  refine gg_iload_n hG dX11_isFigure_0 rfl rfl ?_
  refine gg_bipush (v := 48) hG dX11_isFigure_1 (by decide) ?_
  refine gg_ic_lt (tgt := 16) hG dX11_isFigure_3 (by decide) (fun c2 => ?_) (fun c2 => ?_)
  · replace h := h.1 c2
    refine gg_mk hG [false] rfl ?_
    exact m_X11_isFigure_c16 hG h
  · replace h := h.2 c2
    refine gg_iload_n hG dX11_isFigure_6 rfl rfl ?_
    refine gg_bipush (v := 57) hG dX11_isFigure_7 (by decide) ?_
    refine gg_ic_gt (tgt := 16) hG dX11_isFigure_9 (by decide) (fun c3 => ?_) (fun c3 => ?_)
    · replace h := h.1 c3
      refine gg_mk hG [false] rfl ?_
      exact m_X11_isFigure_c16 hG h
    · replace h := h.2 c3
      refine gg_iconst (v := 1) hG dX11_isFigure_12 (by decide) ?_
      refine gg_goto (tgt := 17) hG dX11_isFigure_13 (by decide) ?_
      refine gg_mk hG [false] rfl ?_
      exact m_X11_isFigure_c17 hG h
theorem mt_X11_isFigure {a0 : Int32}  {u : gg_M} {Q : Int32 → gg_M → Prop} (h : w_X11_isFigure a0 u Q) : gg_Mt 1 yX11_isFigure cX11_isFigure 1 (some .boolean) [.int a0] u (gg_eI Q) :=
  gg_intro (own := RX11) (by decide +kernel) rfl rfl (Nat.le_of_ble_eq_true rfl) (fun G hG => m_X11_isFigure hG  h)
/-! X11_plain -/
def w_X11_plain  (u : gg_M)  (Q : gg_M → Prop) : Prop :=
  ∀ u1 : gg_M, u1 = gg_wI u 49 0 7 →
  ∀ u2 : gg_M, u2 = gg_wI u1 49 1 6 →
  ∀ u3 : gg_M, u3 = gg_wI u2 49 2 10 →
  ∀ u4 : gg_M, u4 = gg_wI u3 49 3 4 →
  ∀ u5 : gg_M, u5 = gg_wI u4 49 4 4 →
  ∀ u6 : gg_M, u6 = gg_wI u5 49 5 12 →
  ∀ u7 : gg_M, u7 = gg_wI u6 49 6 60 →
  Q u7
set_option maxRecDepth 10000 in
theorem m_X11_plain  {u : gg_M}  {G : gg_T} {Q : gg_M → Prop} (hG : gg_Cl none cX11_plain 1 RX11 none 1 (gg_eV Q) G)  (h : w_X11_plain  u  Q)   : G 0 [some (.ref 1)] [] u := by
  unfold w_X11_plain at h
  refine gg_aload_n hG dX11_plain_0 rfl rfl ?_
  refine gg_get (v := .ref 49) hG dX11_plain_1 (by decide) rfl fl_RX11_16 rfl ?_
  refine gg_iconst (v := 0) hG dX11_plain_4 (by decide) ?_
  refine gg_bipush (v := 7) hG dX11_plain_5 (by decide) ?_
  refine gg_iast (j := 0) hG dX11_plain_7 (by decide) rfl (gg_vin (by decide +kernel)) (by decide) ?_
  refine gg_nu (fun u1 eu1 => ?_)
  replace h := h u1 eu1
  refine gg_aload_n hG dX11_plain_8 rfl rfl ?_
  refine gg_get (v := .ref 49) hG dX11_plain_9 (by decide) rfl fl_RX11_16 rfl ?_
  refine gg_iconst (v := 1) hG dX11_plain_12 (by decide) ?_
  refine gg_bipush (v := 6) hG dX11_plain_13 (by decide) ?_
  refine gg_iast (j := 1) hG dX11_plain_15 (by decide) rfl (gg_vin (by decide +kernel)) (by decide) ?_
  refine gg_nu (fun u2 eu2 => ?_)
  replace h := h u2 eu2
  refine gg_aload_n hG dX11_plain_16 rfl rfl ?_
  refine gg_get (v := .ref 49) hG dX11_plain_17 (by decide) rfl fl_RX11_16 rfl ?_
  refine gg_iconst (v := 2) hG dX11_plain_20 (by decide) ?_
  refine gg_bipush (v := 10) hG dX11_plain_21 (by decide) ?_
  refine gg_iast (j := 2) hG dX11_plain_23 (by decide) rfl (gg_vin (by decide +kernel)) (by decide) ?_
  refine gg_nu (fun u3 eu3 => ?_)
  replace h := h u3 eu3
  refine gg_aload_n hG dX11_plain_24 rfl rfl ?_
  refine gg_get (v := .ref 49) hG dX11_plain_25 (by decide) rfl fl_RX11_16 rfl ?_
  refine gg_iconst (v := 3) hG dX11_plain_28 (by decide) ?_
  refine gg_iconst (v := 4) hG dX11_plain_29 (by decide) ?_
  refine gg_iast (j := 3) hG dX11_plain_30 (by decide) rfl (gg_vin (by decide +kernel)) (by decide) ?_
  refine gg_nu (fun u4 eu4 => ?_)
  replace h := h u4 eu4
  refine gg_aload_n hG dX11_plain_31 rfl rfl ?_
  refine gg_get (v := .ref 49) hG dX11_plain_32 (by decide) rfl fl_RX11_16 rfl ?_
  refine gg_iconst (v := 4) hG dX11_plain_35 (by decide) ?_
  refine gg_iconst (v := 4) hG dX11_plain_36 (by decide) ?_
  refine gg_iast (j := 4) hG dX11_plain_37 (by decide) rfl (gg_vin (by decide +kernel)) (by decide) ?_
  refine gg_nu (fun u5 eu5 => ?_)
  replace h := h u5 eu5
  refine gg_aload_n hG dX11_plain_38 rfl rfl ?_
  refine gg_get (v := .ref 49) hG dX11_plain_39 (by decide) rfl fl_RX11_16 rfl ?_
  refine gg_iconst (v := 5) hG dX11_plain_42 (by decide) ?_
  refine gg_bipush (v := 12) hG dX11_plain_43 (by decide) ?_
  refine gg_iast (j := 5) hG dX11_plain_45 (by decide) rfl (gg_vin (by decide +kernel)) (by decide) ?_
  refine gg_nu (fun u6 eu6 => ?_)
  replace h := h u6 eu6
  refine gg_aload_n hG dX11_plain_46 rfl rfl ?_
  refine gg_get (v := .ref 49) hG dX11_plain_47 (by decide) rfl fl_RX11_16 rfl ?_
  refine gg_bipush (v := 6) hG dX11_plain_50 (by decide) ?_
  refine gg_bipush (v := 60) hG dX11_plain_52 (by decide) ?_
  refine gg_iast (j := 6) hG dX11_plain_54 (by decide) rfl (gg_vin (by decide +kernel)) (by decide) ?_
  refine gg_nu (fun u7 eu7 => ?_)
  replace h := h u7 eu7
  exact gg_vret hG dX11_plain_55 rfl ⟨rfl, h⟩
theorem mt_X11_plain   {u : gg_M} {Q : gg_M → Prop} (h : w_X11_plain  u Q) : gg_Mt 1 yX11_plain cX11_plain 1 none [.ref 1] u (gg_eV Q) :=
  gg_intro (own := RX11) (by decide +kernel) rfl rfl (Nat.le_of_ble_eq_true rfl) (fun G hG => m_X11_plain hG  h)
/-! X11_letterOf -/
def w_X11_letterOf_c72 (z0 : Int32) (u : gg_M)  (Q : Int32 → gg_M → Prop) : Prop :=
  Q z0 u
set_option maxRecDepth 10000 in
theorem m_X11_letterOf_c72 {z0 : Int32} {u : gg_M}  {G : gg_T} {Q : Int32 → gg_M → Prop} (hG : gg_Cl none cX11_letterOf 1 RX11 (some .int) 1 (gg_eI Q) G)  (h : w_X11_letterOf_c72 z0 u  Q)   : G 72 [none] [.int z0] u := by
  unfold w_X11_letterOf_c72 at h
  exact gg_iret hG dX11_letterOf_72 rfl rfl ⟨_, rfl, h⟩
def w_X11_letterOf (a0 : Int32) (u : gg_M)  (Q : Int32 → gg_M → Prop) : Prop :=
  (¬ a0 = 112 →
   (¬ a0 = 115 →
    (¬ a0 = 116 →
     (¬ a0 = 100 →
      (¬ a0 = 99 →
       (¬ a0 = 98 →
        (¬ a0 = 109 →
         w_X11_letterOf_c72 (-1) u Q) ∧
        (a0 = 109 →
         w_X11_letterOf_c72 6 u Q)) ∧
       (a0 = 98 →
        w_X11_letterOf_c72 5 u Q)) ∧
      (a0 = 99 →
       w_X11_letterOf_c72 4 u Q)) ∧
     (a0 = 100 →
      w_X11_letterOf_c72 3 u Q)) ∧
    (a0 = 116 →
     w_X11_letterOf_c72 2 u Q)) ∧
   (a0 = 115 →
    w_X11_letterOf_c72 1 u Q)) ∧
  (a0 = 112 →
   w_X11_letterOf_c72 0 u Q)
set_option maxRecDepth 10000 in
theorem m_X11_letterOf {a0 : Int32} {u : gg_M}  {G : gg_T} {Q : Int32 → gg_M → Prop} (hG : gg_Cl none cX11_letterOf 1 RX11 (some .int) 1 (gg_eI Q) G)  (h : w_X11_letterOf a0 u  Q)   : G 0 [some (.int a0)] [] u := by
  unfold w_X11_letterOf at h
  refine gg_iload_n hG dX11_letterOf_0 rfl rfl ?_
  refine gg_bipush (v := 112) hG dX11_letterOf_1 (by decide) ?_
  refine gg_ic_ne (tgt := 10) hG dX11_letterOf_3 (by decide) (fun c1 => ?_) (fun c1 => ?_)
  · replace h := h.1 c1
    refine gg_iload_n hG dX11_letterOf_10 rfl rfl ?_
    refine gg_bipush (v := 115) hG dX11_letterOf_11 (by decide) ?_
    refine gg_ic_ne (tgt := 20) hG dX11_letterOf_13 (by decide) (fun c2 => ?_) (fun c2 => ?_)
    · replace h := h.1 c2
      refine gg_iload_n hG dX11_letterOf_20 rfl rfl ?_
      refine gg_bipush (v := 116) hG dX11_letterOf_21 (by decide) ?_
      refine gg_ic_ne (tgt := 30) hG dX11_letterOf_23 (by decide) (fun c3 => ?_) (fun c3 => ?_)
      · replace h := h.1 c3
        refine gg_iload_n hG dX11_letterOf_30 rfl rfl ?_
        refine gg_bipush (v := 100) hG dX11_letterOf_31 (by decide) ?_
        refine gg_ic_ne (tgt := 40) hG dX11_letterOf_33 (by decide) (fun c4 => ?_) (fun c4 => ?_)
        · replace h := h.1 c4
          refine gg_iload_n hG dX11_letterOf_40 rfl rfl ?_
          refine gg_bipush (v := 99) hG dX11_letterOf_41 (by decide) ?_
          refine gg_ic_ne (tgt := 50) hG dX11_letterOf_43 (by decide) (fun c5 => ?_) (fun c5 => ?_)
          · replace h := h.1 c5
            refine gg_iload_n hG dX11_letterOf_50 rfl rfl ?_
            refine gg_bipush (v := 98) hG dX11_letterOf_51 (by decide) ?_
            refine gg_ic_ne (tgt := 60) hG dX11_letterOf_53 (by decide) (fun c6 => ?_) (fun c6 => ?_)
            · replace h := h.1 c6
              refine gg_iload_n hG dX11_letterOf_60 rfl rfl ?_
              refine gg_bipush (v := 109) hG dX11_letterOf_61 (by decide) ?_
              refine gg_ic_ne (tgt := 71) hG dX11_letterOf_63 (by decide) (fun c7 => ?_) (fun c7 => ?_)
              · replace h := h.1 c7
                refine gg_iconst (v := (-1)) hG dX11_letterOf_71 (by decide) ?_
                refine gg_mk hG [false] rfl ?_
                exact m_X11_letterOf_c72 hG h
              · replace h := h.2 c7
                refine gg_bipush (v := 6) hG dX11_letterOf_66 (by decide) ?_
                refine gg_goto (tgt := 72) hG dX11_letterOf_68 (by decide) ?_
                refine gg_mk hG [false] rfl ?_
                exact m_X11_letterOf_c72 hG h
            · replace h := h.2 c6
              refine gg_iconst (v := 5) hG dX11_letterOf_56 (by decide) ?_
              refine gg_goto (tgt := 72) hG dX11_letterOf_57 (by decide) ?_
              refine gg_mk hG [false] rfl ?_
              exact m_X11_letterOf_c72 hG h
          · replace h := h.2 c5
            refine gg_iconst (v := 4) hG dX11_letterOf_46 (by decide) ?_
            refine gg_goto (tgt := 72) hG dX11_letterOf_47 (by decide) ?_
            refine gg_mk hG [false] rfl ?_
            exact m_X11_letterOf_c72 hG h
        · replace h := h.2 c4
          refine gg_iconst (v := 3) hG dX11_letterOf_36 (by decide) ?_
          refine gg_goto (tgt := 72) hG dX11_letterOf_37 (by decide) ?_
          refine gg_mk hG [false] rfl ?_
          exact m_X11_letterOf_c72 hG h
      · replace h := h.2 c3
        refine gg_iconst (v := 2) hG dX11_letterOf_26 (by decide) ?_
        refine gg_goto (tgt := 72) hG dX11_letterOf_27 (by decide) ?_
        refine gg_mk hG [false] rfl ?_
        exact m_X11_letterOf_c72 hG h
    · replace h := h.2 c2
      refine gg_iconst (v := 1) hG dX11_letterOf_16 (by decide) ?_
      refine gg_goto (tgt := 72) hG dX11_letterOf_17 (by decide) ?_
      refine gg_mk hG [false] rfl ?_
      exact m_X11_letterOf_c72 hG h
  · replace h := h.2 c1
    refine gg_iconst (v := 0) hG dX11_letterOf_6 (by decide) ?_
    refine gg_goto (tgt := 72) hG dX11_letterOf_7 (by decide) ?_
    refine gg_mk hG [false] rfl ?_
    exact m_X11_letterOf_c72 hG h
theorem mt_X11_letterOf {a0 : Int32}  {u : gg_M} {Q : Int32 → gg_M → Prop} (h : w_X11_letterOf a0 u Q) : gg_Mt 1 yX11_letterOf cX11_letterOf 1 (some .int) [.int a0] u (gg_eI Q) :=
  gg_intro (own := RX11) (by decide +kernel) rfl rfl (Nat.le_of_ble_eq_true rfl) (fun G hG => m_X11_letterOf hG  h)
/-! X11_mostOf -/
def w_X11_mostOf_c33 (z0 : Int32) (u : gg_M)  (Q : Int32 → gg_M → Prop) : Prop :=
  Q z0 u
set_option maxRecDepth 10000 in
theorem m_X11_mostOf_c33 {z0 : Int32} {u : gg_M}  {G : gg_T} {Q : Int32 → gg_M → Prop} (hG : gg_Cl none cX11_mostOf 1 RX11 (some .int) 1 (gg_eI Q) G)  (h : w_X11_mostOf_c33 z0 u  Q)   : G 33 [none] [.int z0] u := by
  unfold w_X11_mostOf_c33 at h
  exact gg_iret hG dX11_mostOf_33 rfl rfl ⟨_, rfl, h⟩
def w_X11_mostOf (a0 : Int32) (u : gg_M)  (Q : Int32 → gg_M → Prop) : Prop :=
  (¬ a0 = 2 →
   (¬ a0 = 5 →
    (¬ a0 = 6 →
     w_X11_mostOf_c33 9 u Q) ∧
    (a0 = 6 →
     w_X11_mostOf_c33 99 u Q)) ∧
   (a0 = 5 →
    w_X11_mostOf_c33 30 u Q)) ∧
  (a0 = 2 →
   w_X11_mostOf_c33 20 u Q)
set_option maxRecDepth 10000 in
theorem m_X11_mostOf {a0 : Int32} {u : gg_M}  {G : gg_T} {Q : Int32 → gg_M → Prop} (hG : gg_Cl none cX11_mostOf 1 RX11 (some .int) 1 (gg_eI Q) G)  (h : w_X11_mostOf a0 u  Q)   : G 0 [some (.int a0)] [] u := by
  unfold w_X11_mostOf at h
  refine gg_iload_n hG dX11_mostOf_0 rfl rfl ?_
  refine gg_iconst (v := 2) hG dX11_mostOf_1 (by decide) ?_
  refine gg_ic_ne (tgt := 10) hG dX11_mostOf_2 (by decide) (fun c1 => ?_) (fun c1 => ?_)
  · replace h := h.1 c1
    refine gg_iload_n hG dX11_mostOf_10 rfl rfl ?_
    refine gg_iconst (v := 5) hG dX11_mostOf_11 (by decide) ?_
    refine gg_ic_ne (tgt := 20) hG dX11_mostOf_12 (by decide) (fun c2 => ?_) (fun c2 => ?_)
    · replace h := h.1 c2
      refine gg_iload_n hG dX11_mostOf_20 rfl rfl ?_
      refine gg_bipush (v := 6) hG dX11_mostOf_21 (by decide) ?_
      refine gg_ic_ne (tgt := 31) hG dX11_mostOf_23 (by decide) (fun c3 => ?_) (fun c3 => ?_)
      · replace h := h.1 c3
        refine gg_bipush (v := 9) hG dX11_mostOf_31 (by decide) ?_
        refine gg_mk hG [false] rfl ?_
        exact m_X11_mostOf_c33 hG h
      · replace h := h.2 c3
        refine gg_bipush (v := 99) hG dX11_mostOf_26 (by decide) ?_
        refine gg_goto (tgt := 33) hG dX11_mostOf_28 (by decide) ?_
        refine gg_mk hG [false] rfl ?_
        exact m_X11_mostOf_c33 hG h
    · replace h := h.2 c2
      refine gg_bipush (v := 30) hG dX11_mostOf_15 (by decide) ?_
      refine gg_goto (tgt := 33) hG dX11_mostOf_17 (by decide) ?_
      refine gg_mk hG [false] rfl ?_
      exact m_X11_mostOf_c33 hG h
  · replace h := h.2 c1
    refine gg_bipush (v := 20) hG dX11_mostOf_5 (by decide) ?_
    refine gg_goto (tgt := 33) hG dX11_mostOf_7 (by decide) ?_
    refine gg_mk hG [false] rfl ?_
    exact m_X11_mostOf_c33 hG h
theorem mt_X11_mostOf {a0 : Int32}  {u : gg_M} {Q : Int32 → gg_M → Prop} (h : w_X11_mostOf a0 u Q) : gg_Mt 1 yX11_mostOf cX11_mostOf 1 (some .int) [.int a0] u (gg_eI Q) :=
  gg_intro (own := RX11) (by decide +kernel) rfl rfl (Nat.le_of_ble_eq_true rfl) (fun G hG => m_X11_mostOf hG  h)
/-! X11_motorFault -/
def w_X11_motorFault_c141 (a2 : Int32) (u : gg_M)  (Q : Int32 → gg_M → Prop) : Prop :=
  Q a2 u
set_option maxRecDepth 10000 in
theorem m_X11_motorFault_c141 {a2 : Int32} {u : gg_M}  {G : gg_T} {Q : Int32 → gg_M → Prop} (hG : gg_Cl none cX11_motorFault 4 RX11 (some .int) 2 (gg_eI Q) G)  (h : w_X11_motorFault_c141 a2 u  Q)   : G 141 [none, none, some (.int a2), none] [] u := by
  unfold w_X11_motorFault_c141 at h
  refine gg_iload_n hG dX11_motorFault_141 rfl rfl ?_
  exact gg_iret hG dX11_motorFault_142 rfl rfl ⟨_, rfl, h⟩
def w_X11_motorFault_c125 (a1 : Int32) (a2 : Int32) (a3 : Int32) (u : gg_M) (k9 : gg_M → Prop) (Q : Int32 → gg_M → Prop) : Prop :=
  ((u.1 1 5) = a2 →
   w_X11_motorFault_c141 a2 u Q) ∧
  (¬ (u.1 1 5) = a2 →
   w_X11_mostOf a1 u (fun v3 u2 =>
   (a3 ≤ v3 →
    vp_in a1 7 ∧
    ∀ u6 : gg_M, u6 = gg_wI u2 49 a1.toNatClampNeg a3 →
    (¬ (u6.1 1 5) = (u6.1 48 0) →
     w_X11_byteAt 0 (u6.1 1 5) u6 (fun v9 u8 =>
     (v9 = 59 →
      ∀ u11 : gg_M, u11 = gg_wI u8 1 5 ((u8.1 1 5) + 1) →
      k9 u11) ∧
     (¬ v9 = 59 →
      Q (u8.1 1 5) u8))) ∧
    ((u6.1 1 5) = (u6.1 48 0) →
     Q (-1) u6)) ∧
   (¬ a3 ≤ v3 →
    w_X11_motorFault_c141 a2 u2 Q)))
set_option maxRecDepth 10000 in
theorem m_X11_motorFault_c125 {a1 : Int32} {a2 : Int32} {a3 : Int32} {u : gg_M} {k9 : gg_M → Prop} {G : gg_T} {Q : Int32 → gg_M → Prop} (hG : gg_Cl none cX11_motorFault 4 RX11 (some .int) 2 (gg_eI Q) G)  (h : w_X11_motorFault_c125 a1 a2 a3 u k9 Q)  (hk9 : ∀ s : gg_M, k9 s → G 9 [some (.ref 1), none, none, none] [] s) : G 125 [some (.ref 1), some (.int a1), some (.int a2), some (.int a3)] [] u := by
  unfold w_X11_motorFault_c125 at h
  refine gg_aload_n hG dX11_motorFault_125 rfl rfl ?_
  refine gg_get (v := .int (u.1 1 5)) hG dX11_motorFault_126 (by decide) rfl fl_RX11_79 rfl ?_
  refine gg_iload_n hG dX11_motorFault_129 rfl rfl ?_
  refine gg_ic_eq (tgt := 141) hG dX11_motorFault_130 (by decide) (fun c1 => ?_) (fun c1 => ?_)
  · replace h := h.1 c1
    refine gg_mk hG [false, false, true, false] rfl ?_
    exact m_X11_motorFault_c141 hG h
  · replace h := h.2 c1
    refine gg_iload_n hG dX11_motorFault_133 rfl rfl ?_
    refine gg_iload_n hG dX11_motorFault_134 rfl rfl ?_
    refine gg_xs (As := [.int a1]) (st := [.int a3]) hG dX11_motorFault_135 ml_RX11_94 Y_X11_mostOf YS_X11_mostOf (mt_X11_mostOf h) rfl (by decide) (Nat.le_of_ble_eq_true rfl) rfl (gg_ki (fun v3 u2 h => ?_))
    refine gg_ic_le (tgt := 143) hG dX11_motorFault_138 (by decide) (fun c4 => ?_) (fun c4 => ?_)
    · replace h := h.1 c4
      refine gg_aload_n hG dX11_motorFault_143 rfl rfl ?_
      refine gg_get (v := .ref 49) hG dX11_motorFault_144 (by decide) rfl fl_RX11_16 rfl ?_
      refine gg_iload_n hG dX11_motorFault_147 rfl rfl ?_
      refine gg_iload_n hG dX11_motorFault_148 rfl rfl ?_
      obtain ⟨h5, h⟩ := h
      refine gg_iast (j := a1.toNatClampNeg) hG dX11_motorFault_149 (by decide) rfl h5 rfl ?_
      refine gg_nu (fun u6 eu6 => ?_)
      replace h := h u6 eu6
      refine gg_aload_n hG dX11_motorFault_150 rfl rfl ?_
      refine gg_get (v := .int (u6.1 1 5)) hG dX11_motorFault_151 (by decide) rfl fl_RX11_79 rfl ?_
      refine gg_aload_n hG dX11_motorFault_154 rfl rfl ?_
      refine gg_get (v := .ref 48) hG dX11_motorFault_155 (by decide) rfl fl_RX11_13 rfl ?_
      refine gg_iconst (v := 0) hG dX11_motorFault_158 (by decide) ?_
      refine gg_iald (j := 0) hG dX11_motorFault_159 (by decide) rfl (gg_vin (by decide +kernel)) (by decide) ?_
      refine gg_ic_ne (tgt := 165) hG dX11_motorFault_160 (by decide) (fun c7 => ?_) (fun c7 => ?_)
      · replace h := h.1 c7
        refine gg_aload_n hG dX11_motorFault_165 rfl rfl ?_
        refine gg_iconst (v := 0) hG dX11_motorFault_166 (by decide) ?_
        refine gg_aload_n hG dX11_motorFault_167 rfl rfl ?_
        refine gg_get (v := .int (u6.1 1 5)) hG dX11_motorFault_168 (by decide) rfl fl_RX11_79 rfl ?_
        refine gg_xv (As := [.int 0, .int (u6.1 1 5)]) (st := []) hG dX11_motorFault_171 ml_RX11_83 Y_X11_byteAt YV_X11_byteAt (by decide) ⟨_, rfl, rfl⟩ (mt_X11_byteAt h) rfl (by decide) (Nat.le_of_ble_eq_true rfl) rfl (gg_ki (fun v9 u8 h => ?_))
        refine gg_bipush (v := 59) hG dX11_motorFault_174 (by decide) ?_
        refine gg_ic_eq (tgt := 184) hG dX11_motorFault_176 (by decide) (fun c10 => ?_) (fun c10 => ?_)
        · replace h := h.1 c10
          refine gg_aload_n hG dX11_motorFault_184 rfl rfl ?_
          refine gg_dup hG dX11_motorFault_185 rfl ?_
          refine gg_get (v := .int (u8.1 1 5)) hG dX11_motorFault_186 (by decide) rfl fl_RX11_79 rfl ?_
          refine gg_iconst (v := 1) hG dX11_motorFault_189 (by decide) ?_
          refine gg_iadd hG dX11_motorFault_190 ?_
          refine gg_putI hG dX11_motorFault_191 (by decide) rfl fp_RX11_79 rfl rfl rfl ?_
          refine gg_nu (fun u11 eu11 => ?_)
          replace h := h u11 eu11
          refine gg_goto (tgt := 9) hG dX11_motorFault_194 (by decide) ?_
          refine gg_mk hG [true, false, false, false] rfl ?_
          exact hk9 _ h
        · replace h := h.2 c10
          refine gg_aload_n hG dX11_motorFault_179 rfl rfl ?_
          refine gg_get (v := .int (u8.1 1 5)) hG dX11_motorFault_180 (by decide) rfl fl_RX11_79 rfl ?_
          exact gg_iret hG dX11_motorFault_183 rfl rfl ⟨_, rfl, h⟩
      · replace h := h.2 c7
        refine gg_iconst (v := (-1)) hG dX11_motorFault_163 (by decide) ?_
        exact gg_iret hG dX11_motorFault_164 rfl rfl ⟨_, rfl, h⟩
    · replace h := h.2 c4
      refine gg_mk hG [false, false, true, false] rfl ?_
      exact m_X11_motorFault_c141 hG h
def b_X11_motorFault_c69 (a1 : Int32) (a2 : Int32) (a3 : Int32) (u : gg_M) (k9 : gg_M → Prop) (k69 : Int32 × gg_M → Prop) (Q : Int32 → gg_M → Prop) : Prop :=
  ((a2 + 2) ≤ (u.1 1 5) →
   w_X11_motorFault_c125 a1 a2 a3 u k9 Q) ∧
  (¬ (a2 + 2) ≤ (u.1 1 5) →
   w_X11_byteAt 0 (u.1 1 5) u (fun v14 u13 =>
   w_X11_isFigure v14 u13 (fun v16 u15 =>
   (v16 = 0 →
    w_X11_motorFault_c125 a1 a2 a3 u15 k9 Q) ∧
   (¬ v16 = 0 →
    w_X11_byteAt 0 (u15.1 1 5) u15 (fun v19 u18 =>
    ∀ v20 : Int32, v20 = ((((10 : Int32) * a3) + v19) - 48) →
    ∀ u21 : gg_M, u21 = gg_wI u18 1 5 ((u18.1 1 5) + 1) →
    k69 (v20, u21))))))
set_option maxRecDepth 10000 in
theorem mb_X11_motorFault_c69 {a1 : Int32} {a2 : Int32} {a3 : Int32} {u : gg_M} {k9 : gg_M → Prop} {k69 : Int32 × gg_M → Prop} {G : gg_T} {Q : Int32 → gg_M → Prop} (hG : gg_Cl none cX11_motorFault 4 RX11 (some .int) 2 (gg_eI Q) G)  (h : b_X11_motorFault_c69 a1 a2 a3 u k9 k69 Q)  (hk9 : ∀ s : gg_M, k9 s → G 9 [some (.ref 1), none, none, none] [] s) (hk69 : ∀ s : Int32 × gg_M, k69 s → G 69 [some (.ref 1), some (.int a1), some (.int a2), some (.int s.1)] [] s.2) : G 69 [some (.ref 1), some (.int a1), some (.int a2), some (.int a3)] [] u := by
  unfold b_X11_motorFault_c69 at h
  refine gg_aload_n hG dX11_motorFault_69 rfl rfl ?_
  refine gg_get (v := .int (u.1 1 5)) hG dX11_motorFault_70 (by decide) rfl fl_RX11_79 rfl ?_
  refine gg_iload_n hG dX11_motorFault_73 rfl rfl ?_
  refine gg_iconst (v := 2) hG dX11_motorFault_74 (by decide) ?_
  refine gg_iadd hG dX11_motorFault_75 ?_
  refine gg_ic_ge (tgt := 125) hG dX11_motorFault_76 (by decide) (fun c12 => ?_) (fun c12 => ?_)
  · replace h := h.1 c12
    exact m_X11_motorFault_c125 hG h hk9
  · replace h := h.2 c12
    refine gg_aload_n hG dX11_motorFault_79 rfl rfl ?_
    refine gg_iconst (v := 0) hG dX11_motorFault_80 (by decide) ?_
    refine gg_aload_n hG dX11_motorFault_81 rfl rfl ?_
    refine gg_get (v := .int (u.1 1 5)) hG dX11_motorFault_82 (by decide) rfl fl_RX11_79 rfl ?_
    refine gg_xv (As := [.int 0, .int (u.1 1 5)]) (st := []) hG dX11_motorFault_85 ml_RX11_83 Y_X11_byteAt YV_X11_byteAt (by decide) ⟨_, rfl, rfl⟩ (mt_X11_byteAt h) rfl (by decide) (Nat.le_of_ble_eq_true rfl) rfl (gg_ki (fun v14 u13 h => ?_))
    refine gg_xs (As := [.int v14]) (st := []) hG dX11_motorFault_88 ml_RX11_91 Y_X11_isFigure YS_X11_isFigure (mt_X11_isFigure h) rfl (by decide) (Nat.le_of_ble_eq_true rfl) rfl (gg_ki (fun v16 u15 h => ?_))
    refine gg_if_eq (tgt := 125) hG dX11_motorFault_91 (by decide) (fun c17 => ?_) (fun c17 => ?_)
    · replace h := h.1 c17
      exact m_X11_motorFault_c125 hG h hk9
    · replace h := h.2 c17
      refine gg_bipush (v := 10) hG dX11_motorFault_94 (by decide) ?_
      refine gg_iload_n hG dX11_motorFault_96 rfl rfl ?_
      refine gg_imul hG dX11_motorFault_97 ?_
      refine gg_aload_n hG dX11_motorFault_98 rfl rfl ?_
      refine gg_iconst (v := 0) hG dX11_motorFault_99 (by decide) ?_
      refine gg_aload_n hG dX11_motorFault_100 rfl rfl ?_
      refine gg_get (v := .int (u15.1 1 5)) hG dX11_motorFault_101 (by decide) rfl fl_RX11_79 rfl ?_
      refine gg_xv (As := [.int 0, .int (u15.1 1 5)]) (st := [.int ((10 : Int32) * a3)]) hG dX11_motorFault_104 ml_RX11_83 Y_X11_byteAt YV_X11_byteAt (by decide) ⟨_, rfl, rfl⟩ (mt_X11_byteAt h) rfl (by decide) (Nat.le_of_ble_eq_true rfl) rfl (gg_ki (fun v19 u18 h => ?_))
      refine gg_iadd hG dX11_motorFault_107 ?_
      refine gg_bipush (v := 48) hG dX11_motorFault_108 (by decide) ?_
      refine gg_isub hG dX11_motorFault_110 ?_
      refine gg_ni (fun v20 e20 => ?_)
      replace h := h v20 e20
      refine gg_istore_n (L1 := [some (.ref 1), some (.int a1), some (.int a2), some (.int v20)]) hG dX11_motorFault_111 rfl (by decide) rfl ?_
      refine gg_aload_n hG dX11_motorFault_112 rfl rfl ?_
      refine gg_dup hG dX11_motorFault_113 rfl ?_
      refine gg_get (v := .int (u18.1 1 5)) hG dX11_motorFault_114 (by decide) rfl fl_RX11_79 rfl ?_
      refine gg_iconst (v := 1) hG dX11_motorFault_117 (by decide) ?_
      refine gg_iadd hG dX11_motorFault_118 ?_
      refine gg_putI hG dX11_motorFault_119 (by decide) rfl fp_RX11_79 rfl rfl rfl ?_
      refine gg_nu (fun u21 eu21 => ?_)
      replace h := h u21 eu21
      refine gg_goto (tgt := 69) hG dX11_motorFault_122 (by decide) ?_
      exact hk69 _ h
def w_X11_motorFault_c69 (a1 : Int32) (a2 : Int32) (a3 : Int32) (u : gg_M) (k9 : gg_M → Prop) (Q : Int32 → gg_M → Prop) : Prop :=
  gg_loop (fun (s : Int32 × gg_M) k69 => b_X11_motorFault_c69 a1 a2 s.1 s.2 k9 k69 Q) (a3, u)
set_option maxRecDepth 10000 in
theorem m_X11_motorFault_c69 {a1 : Int32} {a2 : Int32} {a3 : Int32} {u : gg_M} {k9 : gg_M → Prop} {G : gg_T} {Q : Int32 → gg_M → Prop} (hG : gg_Cl none cX11_motorFault 4 RX11 (some .int) 2 (gg_eI Q) G)  (h : w_X11_motorFault_c69 a1 a2 a3 u k9 Q)  (hk9 : ∀ s : gg_M, k9 s → G 9 [some (.ref 1), none, none, none] [] s) : G 69 [some (.ref 1), some (.int a1), some (.int a2), some (.int a3)] [] u :=
  gg_loop_use (P := fun s : Int32 × gg_M => G 69 [some (.ref 1), some (.int a1), some (.int a2), some (.int s.1)] [] s.2) h (fun s rc hb hr => mb_X11_motorFault_c69 hG  hb  hk9 hr)
def w_X11_motorFault_c29  (u : gg_M) (k9 : gg_M → Prop) (Q : Int32 → gg_M → Prop) : Prop :=
  w_X11_byteAt 0 (u.1 1 5) u (fun v23 u22 =>
  w_X11_letterOf v23 u22 (fun v25 u24 =>
  (¬ v25 = (-1) →
   ∀ u27 : gg_M, u27 = gg_wI u24 1 5 ((u24.1 1 5) + 1) →
   ∀ v28 : Int32, v28 = (u27.1 1 5) →
   w_X11_motorFault_c69 v25 v28 0 u27 k9 Q) ∧
  (v25 = (-1) →
   Q (u24.1 1 5) u24)))
set_option maxRecDepth 10000 in
theorem m_X11_motorFault_c29  {u : gg_M} {k9 : gg_M → Prop} {G : gg_T} {Q : Int32 → gg_M → Prop} (hG : gg_Cl none cX11_motorFault 4 RX11 (some .int) 2 (gg_eI Q) G)  (h : w_X11_motorFault_c29  u k9 Q)  (hk9 : ∀ s : gg_M, k9 s → G 9 [some (.ref 1), none, none, none] [] s) : G 29 [some (.ref 1), none, none, none] [] u := by
  unfold w_X11_motorFault_c29 at h
  refine gg_aload_n hG dX11_motorFault_29 rfl rfl ?_
  refine gg_iconst (v := 0) hG dX11_motorFault_30 (by decide) ?_
  refine gg_aload_n hG dX11_motorFault_31 rfl rfl ?_
  refine gg_get (v := .int (u.1 1 5)) hG dX11_motorFault_32 (by decide) rfl fl_RX11_79 rfl ?_
  refine gg_xv (As := [.int 0, .int (u.1 1 5)]) (st := []) hG dX11_motorFault_35 ml_RX11_83 Y_X11_byteAt YV_X11_byteAt (by decide) ⟨_, rfl, rfl⟩ (mt_X11_byteAt h) rfl (by decide) (Nat.le_of_ble_eq_true rfl) rfl (gg_ki (fun v23 u22 h => ?_))
  refine gg_xs (As := [.int v23]) (st := []) hG dX11_motorFault_38 ml_RX11_87 Y_X11_letterOf YS_X11_letterOf (mt_X11_letterOf h) rfl (by decide) (Nat.le_of_ble_eq_true rfl) rfl (gg_ki (fun v25 u24 h => ?_))
  refine gg_istore_n (L1 := [some (.ref 1), some (.int v25), none, none]) hG dX11_motorFault_41 rfl (by decide) rfl ?_
  refine gg_iload_n hG dX11_motorFault_42 rfl rfl ?_
  refine gg_iconst (v := (-1)) hG dX11_motorFault_43 (by decide) ?_
  refine gg_ic_ne (tgt := 52) hG dX11_motorFault_44 (by decide) (fun c26 => ?_) (fun c26 => ?_)
  · replace h := h.1 c26
    refine gg_aload_n hG dX11_motorFault_52 rfl rfl ?_
    refine gg_dup hG dX11_motorFault_53 rfl ?_
    refine gg_get (v := .int (u24.1 1 5)) hG dX11_motorFault_54 (by decide) rfl fl_RX11_79 rfl ?_
    refine gg_iconst (v := 1) hG dX11_motorFault_57 (by decide) ?_
    refine gg_iadd hG dX11_motorFault_58 ?_
    refine gg_putI hG dX11_motorFault_59 (by decide) rfl fp_RX11_79 rfl rfl rfl ?_
    refine gg_nu (fun u27 eu27 => ?_)
    replace h := h u27 eu27
    refine gg_aload_n hG dX11_motorFault_62 rfl rfl ?_
    refine gg_get (v := .int (u27.1 1 5)) hG dX11_motorFault_63 (by decide) rfl fl_RX11_79 rfl ?_
    refine gg_ni (fun v28 e28 => ?_)
    replace h := h v28 e28
    refine gg_istore_n (L1 := [some (.ref 1), some (.int v25), some (.int v28), none]) hG dX11_motorFault_66 rfl (by decide) rfl ?_
    refine gg_iconst (v := 0) hG dX11_motorFault_67 (by decide) ?_
    refine gg_istore_n (L1 := [some (.ref 1), some (.int v25), some (.int v28), some (.int 0)]) hG dX11_motorFault_68 rfl (by decide) rfl ?_
    exact m_X11_motorFault_c69 hG h hk9
  · replace h := h.2 c26
    refine gg_aload_n hG dX11_motorFault_47 rfl rfl ?_
    refine gg_get (v := .int (u24.1 1 5)) hG dX11_motorFault_48 (by decide) rfl fl_RX11_79 rfl ?_
    exact gg_iret hG dX11_motorFault_51 rfl rfl ⟨_, rfl, h⟩
def b_X11_motorFault_c9   (u : gg_M)  (k9 : gg_M → Prop) (Q : Int32 → gg_M → Prop) : Prop :=
  ((u.1 1 5) < (u.1 48 0) →
   w_X11_motorFault_c29 u k9 Q) ∧
  (¬ (u.1 1 5) < (u.1 48 0) →
   ((u.1 1 5) ≤ 0 →
    Q (-1) u) ∧
   (¬ (u.1 1 5) ≤ 0 →
    w_X11_motorFault_c29 u k9 Q))
set_option maxRecDepth 10000 in
theorem mb_X11_motorFault_c9   {u : gg_M}  {k9 : gg_M → Prop} {G : gg_T} {Q : Int32 → gg_M → Prop} (hG : gg_Cl none cX11_motorFault 4 RX11 (some .int) 2 (gg_eI Q) G)  (h : b_X11_motorFault_c9  u k9 Q)   (hk9 : ∀ s : gg_M, k9 s → G 9 [some (.ref 1), none, none, none] [] s) : G 9 [some (.ref 1), none, none, none] [] u := by
  unfold b_X11_motorFault_c9 at h
  refine gg_aload_n hG dX11_motorFault_9 rfl rfl ?_
  refine gg_get (v := .int (u.1 1 5)) hG dX11_motorFault_10 (by decide) rfl fl_RX11_79 rfl ?_
  refine gg_aload_n hG dX11_motorFault_13 rfl rfl ?_
  refine gg_get (v := .ref 48) hG dX11_motorFault_14 (by decide) rfl fl_RX11_13 rfl ?_
  refine gg_iconst (v := 0) hG dX11_motorFault_17 (by decide) ?_
  refine gg_iald (j := 0) hG dX11_motorFault_18 (by decide) rfl (gg_vin (by decide +kernel)) (by decide) ?_
  refine gg_ic_lt (tgt := 29) hG dX11_motorFault_19 (by decide) (fun c29 => ?_) (fun c29 => ?_)
  · replace h := h.1 c29
    exact m_X11_motorFault_c29 hG h hk9
  · replace h := h.2 c29
    refine gg_aload_n hG dX11_motorFault_22 rfl rfl ?_
    refine gg_get (v := .int (u.1 1 5)) hG dX11_motorFault_23 (by decide) rfl fl_RX11_79 rfl ?_
    refine gg_if_le (tgt := 197) hG dX11_motorFault_26 (by decide) (fun c30 => ?_) (fun c30 => ?_)
    · replace h := h.1 c30
      refine gg_iconst (v := (-1)) hG dX11_motorFault_197 (by decide) ?_
      exact gg_iret hG dX11_motorFault_198 rfl rfl ⟨_, rfl, h⟩
    · replace h := h.2 c30
      exact m_X11_motorFault_c29 hG h hk9
def w_X11_motorFault_c9  (u : gg_M)  (Q : Int32 → gg_M → Prop) : Prop :=
  gg_loop (fun (s : gg_M) k9 => b_X11_motorFault_c9  s  k9 Q) u
set_option maxRecDepth 10000 in
theorem m_X11_motorFault_c9  {u : gg_M}  {G : gg_T} {Q : Int32 → gg_M → Prop} (hG : gg_Cl none cX11_motorFault 4 RX11 (some .int) 2 (gg_eI Q) G)  (h : w_X11_motorFault_c9  u  Q)   : G 9 [some (.ref 1), none, none, none] [] u :=
  gg_loop_use (P := fun s : gg_M => G 9 [some (.ref 1), none, none, none] [] s) h (fun s rc hb hr => mb_X11_motorFault_c9 hG  hb   hr)
def w_X11_motorFault  (u : gg_M)  (Q : Int32 → gg_M → Prop) : Prop :=
  w_X11_plain u (fun u31 =>
  ∀ u32 : gg_M, u32 = gg_wI u31 1 5 0 →
  w_X11_motorFault_c9 u32 Q)
set_option maxRecDepth 10000 in
theorem m_X11_motorFault  {u : gg_M}  {G : gg_T} {Q : Int32 → gg_M → Prop} (hG : gg_Cl none cX11_motorFault 4 RX11 (some .int) 2 (gg_eI Q) G)  (h : w_X11_motorFault  u  Q)   : G 0 [some (.ref 1), none, none, none] [] u := by
  unfold w_X11_motorFault at h
  refine gg_aload_n hG dX11_motorFault_0 rfl rfl ?_
  refine gg_xv (As := []) (st := []) hG dX11_motorFault_1 ml_RX11_76 Y_X11_plain YV_X11_plain (by decide) ⟨_, rfl, rfl⟩ (mt_X11_plain h) rfl (by decide) (Nat.le_of_ble_eq_true rfl) rfl (gg_kv (fun u31 h => ?_))
  refine gg_aload_n hG dX11_motorFault_4 rfl rfl ?_
  refine gg_iconst (v := 0) hG dX11_motorFault_5 (by decide) ?_
  refine gg_putI hG dX11_motorFault_6 (by decide) rfl fp_RX11_79 rfl rfl rfl ?_
  refine gg_nu (fun u32 eu32 => ?_)
  replace h := h u32 eu32
  exact m_X11_motorFault_c9 hG h
theorem mt_X11_motorFault   {u : gg_M} {Q : Int32 → gg_M → Prop} (h : w_X11_motorFault  u Q) : gg_Mt 2 yX11_motorFault cX11_motorFault 4 (some .int) [.ref 1] u (gg_eI Q) :=
  gg_intro (own := RX11) (by decide +kernel) rfl rfl (Nat.le_of_ble_eq_true rfl) (fun G hG => m_X11_motorFault hG  h)
