/-! the small constructors -/
def pX7_init (k : Nat → ClassId) (h0 : Nat) (a : Nat → Nat) : va_W := [(h0, .inr (7, [.int 0, .int 0, .int 0, .int 0, .int 0, .int 0, .int 0, .int 0]))]
set_option maxHeartbeats 2000000 in
set_option maxRecDepth 20000 in
theorem ct_X7_init (k : Nat → ClassId) (h0 : Nat) : ci_Mt 1 0 0 yX7_init cX7_init 1 [.ref h0] [(h0, .inr (7, [.int 0, .int 0, .int 0, .int 0, .int 0, .int 0, .int 0, .int 0]))] k (fun w1 => ∃ a : Nat → Nat, w1 = pX7_init k h0 a) := by
  refine ci_intro (own := RX7) (nm := "<init>") (L := [(0, .ref h0)]) (by decide +kernel) rfl rfl rfl (Nat.le_of_ble_eq_true rfl) (fun ad G hG => ?_)
  refine ci_aload_n hG 0 dX7_init_0 rfl rfl ?_
  refine ci_obj hG dX7_init_1 wm_RX7_3 wd_oi wd_oc (by decide) ?_
  exact ci_ret hG dX7_init_4 ⟨rfl, rfl⟩ ⟨fun i => [].getD i 0, rfl⟩
def pX2_init (k : Nat → ClassId) (h0 : Nat) (a : Nat → Nat) : va_W := [(h0, .inr (2, [.ref (a 0), .ref (a 1), .int 0])), ((a 0), .inl (k 0, 24, .inl (fun _ => 0))), ((a 1), .inl (k 0, 24, .inl (fun _ => 0)))]
set_option maxHeartbeats 2000000 in
set_option maxRecDepth 20000 in
theorem ct_X2_init (k : Nat → ClassId) (h0 : Nat) : ci_Mt 1 2 48 yX2_init cX2_init 1 [.ref h0] [(h0, .inr (2, [.null, .null, .int 0]))] k (fun w1 => ∃ a : Nat → Nat, w1 = pX2_init k h0 a) := by
  refine ci_intro (own := RX2) (nm := "<init>") (L := [(0, .ref h0)]) (by decide +kernel) rfl rfl rfl (Nat.le_of_ble_eq_true rfl) (fun ad G hG => ?_)
  refine ci_aload_n hG 0 dX2_init_0 rfl rfl ?_
  refine ci_obj hG dX2_init_1 wm_RX2_3 wd_oi wd_oc (by decide) ?_
  refine ci_aload_n hG 0 dX2_init_4 rfl rfl ?_
  refine ci_bipush (v := 24) hG dX2_init_5 (by decide) ?_
  refine ci_newi (w2 := fun q1 => [(h0, .inr (2, [.null, .null, .int 0])), (q1, .inl (k 0, 24, .inl (fun _ => 0)))]) hG 24 dX2_init_7 wd_int (by decide) (by decide) (Nat.le_of_ble_eq_true rfl) ⟨Nat.le_of_ble_eq_true rfl, Nat.le_of_ble_eq_true rfl⟩ (fun _ => rfl) (fun q1 => ?_)
  refine ci_putF (ci := 2) (r := (RX2, TX2, 3)) (fs := [.null, .null, .int 0]) (v := .ref q1) (w2 := [(h0, .inr (2, [.ref q1, .null, .int 0])), (q1, .inl (k 0, 24, .inl (fun _ => 0)))]) hG 0 0 dX2_init_9 rfl rfl (by decide) wf_RX2_9 rfl rfl rfl rfl rfl (Nat.le_of_ble_eq_true rfl) rfl ?_
  refine ci_aload_n hG 0 dX2_init_12 rfl rfl ?_
  refine ci_bipush (v := 24) hG dX2_init_13 (by decide) ?_
  refine ci_newi (w2 := fun q2 => [(h0, .inr (2, [.ref q1, .null, .int 0])), (q1, .inl (k 0, 24, .inl (fun _ => 0))), (q2, .inl (k 0, 24, .inl (fun _ => 0)))]) hG 24 dX2_init_15 wd_int (by decide) (by decide) (Nat.le_of_ble_eq_true rfl) ⟨Nat.le_of_ble_eq_true rfl, Nat.le_of_ble_eq_true rfl⟩ (fun _ => rfl) (fun q2 => ?_)
  refine ci_putF (ci := 2) (r := (RX2, TX2, 3)) (fs := [.ref q1, .null, .int 0]) (v := .ref q2) (w2 := [(h0, .inr (2, [.ref q1, .ref q2, .int 0])), (q1, .inl (k 0, 24, .inl (fun _ => 0))), (q2, .inl (k 0, 24, .inl (fun _ => 0)))]) hG 0 1 dX2_init_17 rfl rfl (by decide) wf_RX2_15 rfl rfl rfl rfl rfl (Nat.le_of_ble_eq_true rfl) rfl ?_
  exact ci_ret hG dX2_init_20 ⟨rfl, rfl⟩ ⟨fun i => [q1, q2].getD i 0, rfl⟩
def pX3_init (k : Nat → ClassId) (h0 : Nat) (a : Nat → Nat) : va_W := [(h0, .inr (3, [.ref (a 0), .ref (a 1), .ref (a 2), .ref (a 3), .int 0, .int 0])), ((a 0), .inl (k 0, 16, .inl (fun _ => 0))), ((a 1), .inl (k 0, 16, .inl (fun _ => 0))), ((a 2), .inl (k 0, 16, .inl (fun _ => 0))), ((a 3), .inl (k 0, 4, .inl (fun _ => 0)))]
set_option maxHeartbeats 2000000 in
set_option maxRecDepth 20000 in
theorem ct_X3_init (k : Nat → ClassId) (h0 : Nat) : ci_Mt 1 4 52 yX3_init cX3_init 1 [.ref h0] [(h0, .inr (3, [.null, .null, .null, .null, .int 0, .int 0]))] k (fun w1 => ∃ a : Nat → Nat, w1 = pX3_init k h0 a) := by
  refine ci_intro (own := RX3) (nm := "<init>") (L := [(0, .ref h0)]) (by decide +kernel) rfl rfl rfl (Nat.le_of_ble_eq_true rfl) (fun ad G hG => ?_)
  refine ci_aload_n hG 0 dX3_init_0 rfl rfl ?_
  refine ci_obj hG dX3_init_1 wm_RX3_3 wd_oi wd_oc (by decide) ?_
  refine ci_aload_n hG 0 dX3_init_4 rfl rfl ?_
  refine ci_bipush (v := 16) hG dX3_init_5 (by decide) ?_
  refine ci_newi (w2 := fun q1 => [(h0, .inr (3, [.null, .null, .null, .null, .int 0, .int 0])), (q1, .inl (k 0, 16, .inl (fun _ => 0)))]) hG 16 dX3_init_7 wd_int (by decide) (by decide) (Nat.le_of_ble_eq_true rfl) ⟨Nat.le_of_ble_eq_true rfl, Nat.le_of_ble_eq_true rfl⟩ (fun _ => rfl) (fun q1 => ?_)
  refine ci_putF (ci := 3) (r := (RX3, TX3, 6)) (fs := [.null, .null, .null, .null, .int 0, .int 0]) (v := .ref q1) (w2 := [(h0, .inr (3, [.ref q1, .null, .null, .null, .int 0, .int 0])), (q1, .inl (k 0, 16, .inl (fun _ => 0)))]) hG 0 0 dX3_init_9 rfl rfl (by decide) wf_RX3_9 rfl rfl rfl rfl rfl (Nat.le_of_ble_eq_true rfl) rfl ?_
  refine ci_aload_n hG 0 dX3_init_12 rfl rfl ?_
  refine ci_bipush (v := 16) hG dX3_init_13 (by decide) ?_
  refine ci_newi (w2 := fun q2 => [(h0, .inr (3, [.ref q1, .null, .null, .null, .int 0, .int 0])), (q1, .inl (k 0, 16, .inl (fun _ => 0))), (q2, .inl (k 0, 16, .inl (fun _ => 0)))]) hG 16 dX3_init_15 wd_int (by decide) (by decide) (Nat.le_of_ble_eq_true rfl) ⟨Nat.le_of_ble_eq_true rfl, Nat.le_of_ble_eq_true rfl⟩ (fun _ => rfl) (fun q2 => ?_)
  refine ci_putF (ci := 3) (r := (RX3, TX3, 6)) (fs := [.ref q1, .null, .null, .null, .int 0, .int 0]) (v := .ref q2) (w2 := [(h0, .inr (3, [.ref q1, .ref q2, .null, .null, .int 0, .int 0])), (q1, .inl (k 0, 16, .inl (fun _ => 0))), (q2, .inl (k 0, 16, .inl (fun _ => 0)))]) hG 0 1 dX3_init_17 rfl rfl (by decide) wf_RX3_15 rfl rfl rfl rfl rfl (Nat.le_of_ble_eq_true rfl) rfl ?_
  refine ci_aload_n hG 0 dX3_init_20 rfl rfl ?_
  refine ci_bipush (v := 16) hG dX3_init_21 (by decide) ?_
  refine ci_newi (w2 := fun q3 => [(h0, .inr (3, [.ref q1, .ref q2, .null, .null, .int 0, .int 0])), (q1, .inl (k 0, 16, .inl (fun _ => 0))), (q2, .inl (k 0, 16, .inl (fun _ => 0))), (q3, .inl (k 0, 16, .inl (fun _ => 0)))]) hG 16 dX3_init_23 wd_int (by decide) (by decide) (Nat.le_of_ble_eq_true rfl) ⟨Nat.le_of_ble_eq_true rfl, Nat.le_of_ble_eq_true rfl⟩ (fun _ => rfl) (fun q3 => ?_)
  refine ci_putF (ci := 3) (r := (RX3, TX3, 6)) (fs := [.ref q1, .ref q2, .null, .null, .int 0, .int 0]) (v := .ref q3) (w2 := [(h0, .inr (3, [.ref q1, .ref q2, .ref q3, .null, .int 0, .int 0])), (q1, .inl (k 0, 16, .inl (fun _ => 0))), (q2, .inl (k 0, 16, .inl (fun _ => 0))), (q3, .inl (k 0, 16, .inl (fun _ => 0)))]) hG 0 2 dX3_init_25 rfl rfl (by decide) wf_RX3_18 rfl rfl rfl rfl rfl (Nat.le_of_ble_eq_true rfl) rfl ?_
  refine ci_aload_n hG 0 dX3_init_28 rfl rfl ?_
  refine ci_iconst (v := 4) hG dX3_init_29 (by decide) ?_
  refine ci_newi (w2 := fun q4 => [(h0, .inr (3, [.ref q1, .ref q2, .ref q3, .null, .int 0, .int 0])), (q1, .inl (k 0, 16, .inl (fun _ => 0))), (q2, .inl (k 0, 16, .inl (fun _ => 0))), (q3, .inl (k 0, 16, .inl (fun _ => 0))), (q4, .inl (k 0, 4, .inl (fun _ => 0)))]) hG 4 dX3_init_30 wd_int (by decide) (by decide) (Nat.le_of_ble_eq_true rfl) ⟨Nat.le_of_ble_eq_true rfl, Nat.le_of_ble_eq_true rfl⟩ (fun _ => rfl) (fun q4 => ?_)
  refine ci_putF (ci := 3) (r := (RX3, TX3, 6)) (fs := [.ref q1, .ref q2, .ref q3, .null, .int 0, .int 0]) (v := .ref q4) (w2 := [(h0, .inr (3, [.ref q1, .ref q2, .ref q3, .ref q4, .int 0, .int 0])), (q1, .inl (k 0, 16, .inl (fun _ => 0))), (q2, .inl (k 0, 16, .inl (fun _ => 0))), (q3, .inl (k 0, 16, .inl (fun _ => 0))), (q4, .inl (k 0, 4, .inl (fun _ => 0)))]) hG 0 3 dX3_init_32 rfl rfl (by decide) wf_RX3_21 rfl rfl rfl rfl rfl (Nat.le_of_ble_eq_true rfl) rfl ?_
  exact ci_ret hG dX3_init_35 ⟨rfl, rfl⟩ ⟨fun i => [q1, q2, q3, q4].getD i 0, rfl⟩
def f7 (z : Nat → Int32) : Nat → Int32 := (upd (upd (upd (upd (upd (upd (upd z 0 7) 1 6) 2 10) 3 4) 4 4) 5 12) 6 60)
set_option maxHeartbeats 2000000 in
set_option maxRecDepth 20000 in
theorem ct_X4_reset (k : Nat → ClassId) (h0 q0 : Nat) (z : Nat → Int32) : ci_Mt 0 0 0 yX4_reset cX4_reset 2 [.ref h0] [(h0, .inr (4, [.ref q0, .int (-1)])), (q0, .inl (k 0, 7, .inl z))] k (fun w1 => w1 = [(h0, .inr (4, [.ref q0, .int (-1)])), (q0, .inl (k 0, 7, .inl (f7 z)))]) := by
  refine ci_intro (own := RX4) (nm := "reset") (L := [(0, .ref h0)]) (by decide +kernel) rfl rfl rfl (Nat.le_of_ble_eq_true rfl) (fun ad G hG => ?_)
  refine ci_iconst (v := 0) hG dX4_reset_0 (by decide) ?_
  refine ci_istore_n (L1 := [(1, .int 0), (0, .ref h0)]) hG dX4_reset_1 rfl (by decide) rfl ?_
  refine ci_iload_n hG 0 dX4_reset_2 rfl rfl ?_
  refine ci_bipush (v := 7) hG dX4_reset_3 (by decide) ?_
  refine ci_lt hG 25 dX4_reset_5 (by decide) (by decide) ?_
  refine ci_aload_n hG 1 dX4_reset_8 rfl rfl ?_
  refine ci_get (ci := 4) (r := (RX4, TX4, 2)) (fs := [.ref q0, .int (-1)]) (v := .ref q0) hG 0 0 dX4_reset_9 rfl rfl (by decide) wf_RX4_9 rfl ?_
  refine ci_iload_n hG 0 dX4_reset_12 rfl rfl ?_
  refine ci_gets (k0 := 2) hG dX4_reset_13 (by decide) wg_RX4_26 ?_
  refine ci_iload_n hG 0 dX4_reset_16 rfl rfl ?_
  refine ci_ti (k0 := 2) (x := 7) hG dX4_reset_17 (by decide) rfl (gg_vin (by decide +kernel)) (by decide +kernel) ?_
  refine ci_iast (f := z) (w2 := [(h0, .inr (4, [.ref q0, .int (-1)])), (q0, .inl (k 0, 7, .inl (upd z 0 7)))]) hG 1 dX4_reset_18 rfl (gg_vin (by decide +kernel)) rfl ?_
  refine ci_iinc (v := 1) (L1 := [(1, .int 1), (0, .ref h0)]) hG 0 dX4_reset_19 rfl (by decide) (by decide) rfl ?_
  refine ci_goto (tgt := 2) hG dX4_reset_22 (by decide) ?_
  refine ci_iload_n hG 0 dX4_reset_2 rfl rfl ?_
  refine ci_bipush (v := 7) hG dX4_reset_3 (by decide) ?_
  refine ci_lt hG 25 dX4_reset_5 (by decide) (by decide) ?_
  refine ci_aload_n hG 1 dX4_reset_8 rfl rfl ?_
  refine ci_get (ci := 4) (r := (RX4, TX4, 2)) (fs := [.ref q0, .int (-1)]) (v := .ref q0) hG 0 0 dX4_reset_9 rfl rfl (by decide) wf_RX4_9 rfl ?_
  refine ci_iload_n hG 0 dX4_reset_12 rfl rfl ?_
  refine ci_gets (k0 := 2) hG dX4_reset_13 (by decide) wg_RX4_26 ?_
  refine ci_iload_n hG 0 dX4_reset_16 rfl rfl ?_
  refine ci_ti (k0 := 2) (x := 6) hG dX4_reset_17 (by decide) rfl (gg_vin (by decide +kernel)) (by decide +kernel) ?_
  refine ci_iast (f := (upd z 0 7)) (w2 := [(h0, .inr (4, [.ref q0, .int (-1)])), (q0, .inl (k 0, 7, .inl (upd (upd z 0 7) 1 6)))]) hG 1 dX4_reset_18 rfl (gg_vin (by decide +kernel)) rfl ?_
  refine ci_iinc (v := 2) (L1 := [(1, .int 2), (0, .ref h0)]) hG 0 dX4_reset_19 rfl (by decide) (by decide) rfl ?_
  refine ci_goto (tgt := 2) hG dX4_reset_22 (by decide) ?_
  refine ci_iload_n hG 0 dX4_reset_2 rfl rfl ?_
  refine ci_bipush (v := 7) hG dX4_reset_3 (by decide) ?_
  refine ci_lt hG 25 dX4_reset_5 (by decide) (by decide) ?_
  refine ci_aload_n hG 1 dX4_reset_8 rfl rfl ?_
  refine ci_get (ci := 4) (r := (RX4, TX4, 2)) (fs := [.ref q0, .int (-1)]) (v := .ref q0) hG 0 0 dX4_reset_9 rfl rfl (by decide) wf_RX4_9 rfl ?_
  refine ci_iload_n hG 0 dX4_reset_12 rfl rfl ?_
  refine ci_gets (k0 := 2) hG dX4_reset_13 (by decide) wg_RX4_26 ?_
  refine ci_iload_n hG 0 dX4_reset_16 rfl rfl ?_
  refine ci_ti (k0 := 2) (x := 10) hG dX4_reset_17 (by decide) rfl (gg_vin (by decide +kernel)) (by decide +kernel) ?_
  refine ci_iast (f := (upd (upd z 0 7) 1 6)) (w2 := [(h0, .inr (4, [.ref q0, .int (-1)])), (q0, .inl (k 0, 7, .inl (upd (upd (upd z 0 7) 1 6) 2 10)))]) hG 1 dX4_reset_18 rfl (gg_vin (by decide +kernel)) rfl ?_
  refine ci_iinc (v := 3) (L1 := [(1, .int 3), (0, .ref h0)]) hG 0 dX4_reset_19 rfl (by decide) (by decide) rfl ?_
  refine ci_goto (tgt := 2) hG dX4_reset_22 (by decide) ?_
  refine ci_iload_n hG 0 dX4_reset_2 rfl rfl ?_
  refine ci_bipush (v := 7) hG dX4_reset_3 (by decide) ?_
  refine ci_lt hG 25 dX4_reset_5 (by decide) (by decide) ?_
  refine ci_aload_n hG 1 dX4_reset_8 rfl rfl ?_
  refine ci_get (ci := 4) (r := (RX4, TX4, 2)) (fs := [.ref q0, .int (-1)]) (v := .ref q0) hG 0 0 dX4_reset_9 rfl rfl (by decide) wf_RX4_9 rfl ?_
  refine ci_iload_n hG 0 dX4_reset_12 rfl rfl ?_
  refine ci_gets (k0 := 2) hG dX4_reset_13 (by decide) wg_RX4_26 ?_
  refine ci_iload_n hG 0 dX4_reset_16 rfl rfl ?_
  refine ci_ti (k0 := 2) (x := 4) hG dX4_reset_17 (by decide) rfl (gg_vin (by decide +kernel)) (by decide +kernel) ?_
  refine ci_iast (f := (upd (upd (upd z 0 7) 1 6) 2 10)) (w2 := [(h0, .inr (4, [.ref q0, .int (-1)])), (q0, .inl (k 0, 7, .inl (upd (upd (upd (upd z 0 7) 1 6) 2 10) 3 4)))]) hG 1 dX4_reset_18 rfl (gg_vin (by decide +kernel)) rfl ?_
  refine ci_iinc (v := 4) (L1 := [(1, .int 4), (0, .ref h0)]) hG 0 dX4_reset_19 rfl (by decide) (by decide) rfl ?_
  refine ci_goto (tgt := 2) hG dX4_reset_22 (by decide) ?_
  refine ci_iload_n hG 0 dX4_reset_2 rfl rfl ?_
  refine ci_bipush (v := 7) hG dX4_reset_3 (by decide) ?_
  refine ci_lt hG 25 dX4_reset_5 (by decide) (by decide) ?_
  refine ci_aload_n hG 1 dX4_reset_8 rfl rfl ?_
  refine ci_get (ci := 4) (r := (RX4, TX4, 2)) (fs := [.ref q0, .int (-1)]) (v := .ref q0) hG 0 0 dX4_reset_9 rfl rfl (by decide) wf_RX4_9 rfl ?_
  refine ci_iload_n hG 0 dX4_reset_12 rfl rfl ?_
  refine ci_gets (k0 := 2) hG dX4_reset_13 (by decide) wg_RX4_26 ?_
  refine ci_iload_n hG 0 dX4_reset_16 rfl rfl ?_
  refine ci_ti (k0 := 2) (x := 4) hG dX4_reset_17 (by decide) rfl (gg_vin (by decide +kernel)) (by decide +kernel) ?_
  refine ci_iast (f := (upd (upd (upd (upd z 0 7) 1 6) 2 10) 3 4)) (w2 := [(h0, .inr (4, [.ref q0, .int (-1)])), (q0, .inl (k 0, 7, .inl (upd (upd (upd (upd (upd z 0 7) 1 6) 2 10) 3 4) 4 4)))]) hG 1 dX4_reset_18 rfl (gg_vin (by decide +kernel)) rfl ?_
  refine ci_iinc (v := 5) (L1 := [(1, .int 5), (0, .ref h0)]) hG 0 dX4_reset_19 rfl (by decide) (by decide) rfl ?_
  refine ci_goto (tgt := 2) hG dX4_reset_22 (by decide) ?_
  refine ci_iload_n hG 0 dX4_reset_2 rfl rfl ?_
  refine ci_bipush (v := 7) hG dX4_reset_3 (by decide) ?_
  refine ci_lt hG 25 dX4_reset_5 (by decide) (by decide) ?_
  refine ci_aload_n hG 1 dX4_reset_8 rfl rfl ?_
  refine ci_get (ci := 4) (r := (RX4, TX4, 2)) (fs := [.ref q0, .int (-1)]) (v := .ref q0) hG 0 0 dX4_reset_9 rfl rfl (by decide) wf_RX4_9 rfl ?_
  refine ci_iload_n hG 0 dX4_reset_12 rfl rfl ?_
  refine ci_gets (k0 := 2) hG dX4_reset_13 (by decide) wg_RX4_26 ?_
  refine ci_iload_n hG 0 dX4_reset_16 rfl rfl ?_
  refine ci_ti (k0 := 2) (x := 12) hG dX4_reset_17 (by decide) rfl (gg_vin (by decide +kernel)) (by decide +kernel) ?_
  refine ci_iast (f := (upd (upd (upd (upd (upd z 0 7) 1 6) 2 10) 3 4) 4 4)) (w2 := [(h0, .inr (4, [.ref q0, .int (-1)])), (q0, .inl (k 0, 7, .inl (upd (upd (upd (upd (upd (upd z 0 7) 1 6) 2 10) 3 4) 4 4) 5 12)))]) hG 1 dX4_reset_18 rfl (gg_vin (by decide +kernel)) rfl ?_
  refine ci_iinc (v := 6) (L1 := [(1, .int 6), (0, .ref h0)]) hG 0 dX4_reset_19 rfl (by decide) (by decide) rfl ?_
  refine ci_goto (tgt := 2) hG dX4_reset_22 (by decide) ?_
  refine ci_iload_n hG 0 dX4_reset_2 rfl rfl ?_
  refine ci_bipush (v := 7) hG dX4_reset_3 (by decide) ?_
  refine ci_lt hG 25 dX4_reset_5 (by decide) (by decide) ?_
  refine ci_aload_n hG 1 dX4_reset_8 rfl rfl ?_
  refine ci_get (ci := 4) (r := (RX4, TX4, 2)) (fs := [.ref q0, .int (-1)]) (v := .ref q0) hG 0 0 dX4_reset_9 rfl rfl (by decide) wf_RX4_9 rfl ?_
  refine ci_iload_n hG 0 dX4_reset_12 rfl rfl ?_
  refine ci_gets (k0 := 2) hG dX4_reset_13 (by decide) wg_RX4_26 ?_
  refine ci_iload_n hG 0 dX4_reset_16 rfl rfl ?_
  refine ci_ti (k0 := 2) (x := 60) hG dX4_reset_17 (by decide) rfl (gg_vin (by decide +kernel)) (by decide +kernel) ?_
  refine ci_iast (f := (upd (upd (upd (upd (upd (upd z 0 7) 1 6) 2 10) 3 4) 4 4) 5 12)) (w2 := [(h0, .inr (4, [.ref q0, .int (-1)])), (q0, .inl (k 0, 7, .inl (upd (upd (upd (upd (upd (upd (upd z 0 7) 1 6) 2 10) 3 4) 4 4) 5 12) 6 60)))]) hG 1 dX4_reset_18 rfl (gg_vin (by decide +kernel)) rfl ?_
  refine ci_iinc (v := 7) (L1 := [(1, .int 7), (0, .ref h0)]) hG 0 dX4_reset_19 rfl (by decide) (by decide) rfl ?_
  refine ci_goto (tgt := 2) hG dX4_reset_22 (by decide) ?_
  refine ci_iload_n hG 0 dX4_reset_2 rfl rfl ?_
  refine ci_bipush (v := 7) hG dX4_reset_3 (by decide) ?_
  refine ci_ge (tgt := 25) hG dX4_reset_5 (by decide) (by decide) ?_
  exact ci_ret hG dX4_reset_25 ⟨rfl, rfl⟩ rfl
def pX4_init (k : Nat → ClassId) (h0 : Nat) (a : Nat → Nat) : va_W := [(h0, .inr (4, [.ref (a 0), .int (-1)])), ((a 0), .inl (k 0, 7, .inl (f7 (fun _ => 0))))]
set_option maxHeartbeats 2000000 in
set_option maxRecDepth 20000 in
theorem ct_X4_init (k : Nat → ClassId) (h0 : Nat) : ci_Mt 1 1 7 yX4_init cX4_init 1 [.ref h0] [(h0, .inr (4, [.null, .int 0]))] k (fun w1 => ∃ a : Nat → Nat, w1 = pX4_init k h0 a) := by
  refine ci_intro (own := RX4) (nm := "<init>") (L := [(0, .ref h0)]) (by decide +kernel) rfl rfl rfl (Nat.le_of_ble_eq_true rfl) (fun ad G hG => ?_)
  refine ci_aload_n hG 0 dX4_init_0 rfl rfl ?_
  refine ci_obj hG dX4_init_1 wm_RX4_3 wd_oi wd_oc (by decide) ?_
  refine ci_aload_n hG 0 dX4_init_4 rfl rfl ?_
  refine ci_bipush (v := 7) hG dX4_init_5 (by decide) ?_
  refine ci_newi (w2 := fun q1 => [(h0, .inr (4, [.null, .int 0])), (q1, .inl (k 0, 7, .inl (fun _ => 0)))]) hG 7 dX4_init_7 wd_int (by decide) (by decide) (Nat.le_of_ble_eq_true rfl) ⟨Nat.le_of_ble_eq_true rfl, Nat.le_of_ble_eq_true rfl⟩ (fun _ => rfl) (fun q1 => ?_)
  refine ci_putF (ci := 4) (r := (RX4, TX4, 2)) (fs := [.null, .int 0]) (v := .ref q1) (w2 := [(h0, .inr (4, [.ref q1, .int 0])), (q1, .inl (k 0, 7, .inl (fun _ => 0)))]) hG 0 0 dX4_init_9 rfl rfl (by decide) wf_RX4_9 rfl rfl rfl rfl rfl (Nat.le_of_ble_eq_true rfl) rfl ?_
  refine ci_aload_n hG 0 dX4_init_12 rfl rfl ?_
  refine ci_iconst (v := (-1)) hG dX4_init_13 (by decide) ?_
  refine ci_put (ci := 4) (r := (RX4, TX4, 2)) (fs := [.ref q1, .int 0]) (v := .int (-1)) (w2 := [(h0, .inr (4, [.ref q1, .int (-1)])), (q1, .inl (k 0, 7, .inl (fun _ => 0)))]) hG 0 1 dX4_init_14 rfl rfl (by decide) wf_RX4_15 rfl rfl rfl (Nat.le_of_ble_eq_true rfl) rfl ?_
  refine ci_aload_n hG 0 dX4_init_17 rfl rfl ?_
  refine ci_callv (wr := []) (wc := [(h0, .inr (4, [.ref q1, .int (-1)])), (q1, .inl (k 0, 7, .inl (fun _ => 0)))]) (As := []) (st := []) hG dX4_init_18 wm_RX4_19 Y_X4_reset YV_X4_reset ⟨0, _, 4, _, rfl, rfl, rfl⟩ (ct_X4_reset k h0 q1 _) rfl (by decide) ⟨Nat.le_of_ble_eq_true rfl, Nat.le_of_ble_eq_true rfl⟩ (Nat.le_of_ble_eq_true rfl) rfl rfl ?_
  rintro _ rfl
  exact ci_ret hG dX4_init_21 ⟨rfl, rfl⟩ ⟨fun i => [q1].getD i 0, rfl⟩
def pX5_init (k : Nat → ClassId) (h0 : Nat) (a : Nat → Nat) : va_W := [(h0, .inr (5, [.ref (a 0), .int 0, .int (-1)])), ((a 0), .inl (k 0, 90, .inl (fun _ => 0)))]
set_option maxHeartbeats 2000000 in
set_option maxRecDepth 20000 in
theorem ct_X5_init (k : Nat → ClassId) (h0 : Nat) : ci_Mt 1 1 90 yX5_init cX5_init 1 [.ref h0] [(h0, .inr (5, [.null, .int 0, .int 0]))] k (fun w1 => ∃ a : Nat → Nat, w1 = pX5_init k h0 a) := by
  refine ci_intro (own := RX5) (nm := "<init>") (L := [(0, .ref h0)]) (by decide +kernel) rfl rfl rfl (Nat.le_of_ble_eq_true rfl) (fun ad G hG => ?_)
  refine ci_aload_n hG 0 dX5_init_0 rfl rfl ?_
  refine ci_obj hG dX5_init_1 wm_RX5_3 wd_oi wd_oc (by decide) ?_
  refine ci_aload_n hG 0 dX5_init_4 rfl rfl ?_
  refine ci_bipush (v := 90) hG dX5_init_5 (by decide) ?_
  refine ci_newi (w2 := fun q1 => [(h0, .inr (5, [.null, .int 0, .int 0])), (q1, .inl (k 0, 90, .inl (fun _ => 0)))]) hG 90 dX5_init_7 wd_int (by decide) (by decide) (Nat.le_of_ble_eq_true rfl) ⟨Nat.le_of_ble_eq_true rfl, Nat.le_of_ble_eq_true rfl⟩ (fun _ => rfl) (fun q1 => ?_)
  refine ci_putF (ci := 5) (r := (RX5, TX5, 3)) (fs := [.null, .int 0, .int 0]) (v := .ref q1) (w2 := [(h0, .inr (5, [.ref q1, .int 0, .int 0])), (q1, .inl (k 0, 90, .inl (fun _ => 0)))]) hG 0 0 dX5_init_9 rfl rfl (by decide) wf_RX5_11 rfl rfl rfl rfl rfl (Nat.le_of_ble_eq_true rfl) rfl ?_
  refine ci_aload_n hG 0 dX5_init_12 rfl rfl ?_
  refine ci_iconst (v := (-1)) hG dX5_init_13 (by decide) ?_
  refine ci_put (ci := 5) (r := (RX5, TX5, 3)) (fs := [.ref q1, .int 0, .int 0]) (v := .int (-1)) (w2 := [(h0, .inr (5, [.ref q1, .int 0, .int (-1)])), (q1, .inl (k 0, 90, .inl (fun _ => 0)))]) hG 0 2 dX5_init_14 rfl rfl (by decide) wf_RX5_15 rfl rfl rfl (Nat.le_of_ble_eq_true rfl) rfl ?_
  exact ci_ret hG dX5_init_17 ⟨rfl, rfl⟩ ⟨fun i => [q1].getD i 0, rfl⟩
def pX6_init (k : Nat → ClassId) (h0 : Nat) (a : Nat → Nat) : va_W := [(h0, .inr (6, [.ref (a 0), .int (-1), .int 0])), ((a 0), .inl (k 0, 48, .inl (fun _ => 0)))]
set_option maxHeartbeats 2000000 in
set_option maxRecDepth 20000 in
theorem ct_X6_init (k : Nat → ClassId) (h0 : Nat) : ci_Mt 1 1 48 yX6_init cX6_init 1 [.ref h0] [(h0, .inr (6, [.null, .int 0, .int 0]))] k (fun w1 => ∃ a : Nat → Nat, w1 = pX6_init k h0 a) := by
  refine ci_intro (own := RX6) (nm := "<init>") (L := [(0, .ref h0)]) (by decide +kernel) rfl rfl rfl (Nat.le_of_ble_eq_true rfl) (fun ad G hG => ?_)
  refine ci_aload_n hG 0 dX6_init_0 rfl rfl ?_
  refine ci_obj hG dX6_init_1 wm_RX6_3 wd_oi wd_oc (by decide) ?_
  refine ci_aload_n hG 0 dX6_init_4 rfl rfl ?_
  refine ci_bipush (v := 48) hG dX6_init_5 (by decide) ?_
  refine ci_newi (w2 := fun q1 => [(h0, .inr (6, [.null, .int 0, .int 0])), (q1, .inl (k 0, 48, .inl (fun _ => 0)))]) hG 48 dX6_init_7 wd_int (by decide) (by decide) (Nat.le_of_ble_eq_true rfl) ⟨Nat.le_of_ble_eq_true rfl, Nat.le_of_ble_eq_true rfl⟩ (fun _ => rfl) (fun q1 => ?_)
  refine ci_putF (ci := 6) (r := (RX6, TX6, 3)) (fs := [.null, .int 0, .int 0]) (v := .ref q1) (w2 := [(h0, .inr (6, [.ref q1, .int 0, .int 0])), (q1, .inl (k 0, 48, .inl (fun _ => 0)))]) hG 0 0 dX6_init_9 rfl rfl (by decide) wf_RX6_9 rfl rfl rfl rfl rfl (Nat.le_of_ble_eq_true rfl) rfl ?_
  refine ci_aload_n hG 0 dX6_init_12 rfl rfl ?_
  refine ci_iconst (v := (-1)) hG dX6_init_13 (by decide) ?_
  refine ci_put (ci := 6) (r := (RX6, TX6, 3)) (fs := [.ref q1, .int 0, .int 0]) (v := .int (-1)) (w2 := [(h0, .inr (6, [.ref q1, .int (-1), .int 0])), (q1, .inl (k 0, 48, .inl (fun _ => 0)))]) hG 0 1 dX6_init_14 rfl rfl (by decide) wf_RX6_15 rfl rfl rfl (Nat.le_of_ble_eq_true rfl) rfl ?_
  exact ci_ret hG dX6_init_17 ⟨rfl, rfl⟩ ⟨fun i => [q1].getD i 0, rfl⟩
def pX8_init (k : Nat → ClassId) (N : Nat) (h0 : Nat) (a : Nat → Nat) : va_W := [(h0, .inr (8, [.ref (a 0), .int 0])), ((a 0), .inl (k 0, N, .inl (fun _ => 0)))]
set_option maxHeartbeats 2000000 in
set_option maxRecDepth 20000 in
theorem ct_X8_init (k : Nat → ClassId) (h0 : Nat) {N : Nat} {x : Int32} (hx0 : ¬ x < 0) (hxN : x.toNatClampNeg = N) (hN9 : N ≤ 1000) : ci_Mt 1 1 N yX8_init cX8_init 2 [.ref h0, .int x] [(h0, .inr (8, [.null, .int 0]))] k (fun w1 => ∃ a : Nat → Nat, w1 = pX8_init k N h0 a) := by
  refine ci_intro (own := RX8) (nm := "<init>") (L := [(0, .ref h0), (1, .int x)]) (by decide +kernel) rfl rfl rfl (Nat.le_of_ble_eq_true rfl) (fun ad G hG => ?_)
  have hxm : (if (0 : Int32) < x then x else 0) = x := by
    split
    · rfl
    · have hle : ¬ 0 < x := by assumption
      exact Int32.le_antisymm (Int32.not_lt.mp hx0) (Int32.not_lt.mp hle)
  refine ci_aload_n hG 0 dX8_init_0 rfl rfl ?_
  refine ci_obj hG dX8_init_1 wm_RX8_3 wd_oi wd_oc (by decide) ?_
  refine ci_aload_n hG 0 dX8_init_4 rfl rfl ?_
  refine ci_iconst (v := 0) hG dX8_init_5 (by decide) ?_
  refine ci_iload_n hG 1 dX8_init_6 rfl rfl ?_
  refine ci_max (v := x) hG dX8_init_7 wm_RX8_9 wd_ms wd_mi wd_mc (by decide) (Nat.le_of_ble_eq_true rfl) ⟨Nat.zero_le _, Nat.zero_le _⟩ hxm ?_
  refine ci_newi (w2 := fun q1 => [(h0, .inr (8, [.null, .int 0])), (q1, .inl (k 0, N, .inl (fun _ => 0)))]) hG N dX8_init_10 wd_int hx0 hxN (by show N * 4 ≤ _; omega) ⟨Nat.le_refl _, by omega⟩ (fun _ => rfl) (fun q1 => ?_)
  refine ci_putF (ci := 8) (r := (RX8, TX8, 2)) (fs := [.null, .int 0]) (v := .ref q1) (w2 := [(h0, .inr (8, [.ref q1, .int 0])), (q1, .inl (k 0, N, .inl (fun _ => 0)))]) hG 0 0 dX8_init_12 rfl rfl (by decide) wf_RX8_15 rfl rfl rfl rfl rfl (Nat.le_of_ble_eq_true rfl) rfl ?_
  exact ci_ret hG dX8_init_15 ⟨rfl, Nat.zero_add N⟩ ⟨fun i => [q1].getD i 0, rfl⟩
def pX9_init (k : Nat → ClassId) (h0 : Nat) (a : Nat → Nat) : va_W := [(h0, .inr (9, [.ref (a 0), .int 0, .int 0])), ((a 0), .inl (k 0, 32, .inl (fun _ => 0)))]
set_option maxHeartbeats 2000000 in
set_option maxRecDepth 20000 in
theorem ct_X9_init (k : Nat → ClassId) (h0 : Nat) : ci_Mt 1 1 32 yX9_init cX9_init 1 [.ref h0] [(h0, .inr (9, [.null, .int 0, .int 0]))] k (fun w1 => ∃ a : Nat → Nat, w1 = pX9_init k h0 a) := by
  refine ci_intro (own := RX9) (nm := "<init>") (L := [(0, .ref h0)]) (by decide +kernel) rfl rfl rfl (Nat.le_of_ble_eq_true rfl) (fun ad G hG => ?_)
  refine ci_aload_n hG 0 dX9_init_0 rfl rfl ?_
  refine ci_obj hG dX9_init_1 wm_RX9_3 wd_oi wd_oc (by decide) ?_
  refine ci_aload_n hG 0 dX9_init_4 rfl rfl ?_
  refine ci_bipush (v := 32) hG dX9_init_5 (by decide) ?_
  refine ci_newi (w2 := fun q1 => [(h0, .inr (9, [.null, .int 0, .int 0])), (q1, .inl (k 0, 32, .inl (fun _ => 0)))]) hG 32 dX9_init_7 wd_int (by decide) (by decide) (Nat.le_of_ble_eq_true rfl) ⟨Nat.le_of_ble_eq_true rfl, Nat.le_of_ble_eq_true rfl⟩ (fun _ => rfl) (fun q1 => ?_)
  refine ci_putF (ci := 9) (r := (RX9, TX9, 3)) (fs := [.null, .int 0, .int 0]) (v := .ref q1) (w2 := [(h0, .inr (9, [.ref q1, .int 0, .int 0])), (q1, .inl (k 0, 32, .inl (fun _ => 0)))]) hG 0 0 dX9_init_9 rfl rfl (by decide) wf_RX9_9 rfl rfl rfl rfl rfl (Nat.le_of_ble_eq_true rfl) rfl ?_
  exact ci_ret hG dX9_init_12 ⟨rfl, rfl⟩ ⟨fun i => [q1].getD i 0, rfl⟩
def pX0_init (k : Nat → ClassId) (h0 : Nat) (a : Nat → Nat) : va_W := [(h0, .inr (0, [.ref (a 0)])), ((a 0), .inl (k 0, 5, .inl (upd (upd (upd (upd (upd (fun _ => 0) 0 3) 1 3) 2 3) 3 3) 4 3)))]
set_option maxHeartbeats 2000000 in
set_option maxRecDepth 20000 in
theorem ct_X0_init (k : Nat → ClassId) (h0 : Nat) : ci_Mt 1 1 5 yX0_init cX0_init 1 [.ref h0] [(h0, .inr (0, [.null]))] k (fun w1 => ∃ a : Nat → Nat, w1 = pX0_init k h0 a) := by
  refine ci_intro (own := RX0) (nm := "<init>") (L := [(0, .ref h0)]) (by decide +kernel) rfl rfl rfl (Nat.le_of_ble_eq_true rfl) (fun ad G hG => ?_)
  refine ci_aload_n hG 0 dX0_init_0 rfl rfl ?_
  refine ci_obj hG dX0_init_1 wm_RX0_3 wd_oi wd_oc (by decide) ?_
  refine ci_aload_n hG 0 dX0_init_4 rfl rfl ?_
  refine ci_iconst (v := 5) hG dX0_init_5 (by decide) ?_
  refine ci_newi (w2 := fun q1 => [(h0, .inr (0, [.null])), (q1, .inl (k 0, 5, .inl (fun _ => 0)))]) hG 5 dX0_init_6 wd_int (by decide) (by decide) (Nat.le_of_ble_eq_true rfl) ⟨Nat.le_of_ble_eq_true rfl, Nat.le_of_ble_eq_true rfl⟩ (fun _ => rfl) (fun q1 => ?_)
  refine ci_dup hG dX0_init_8 rfl ?_
  refine ci_iconst (v := 0) hG dX0_init_9 (by decide) ?_
  refine ci_iconst (v := 3) hG dX0_init_10 (by decide) ?_
  refine ci_iast (f := (fun _ => 0)) (w2 := [(h0, .inr (0, [.null])), (q1, .inl (k 0, 5, .inl (upd (fun _ => 0) 0 3)))]) hG 1 dX0_init_11 rfl (gg_vin (by decide +kernel)) rfl ?_
  refine ci_dup hG dX0_init_12 rfl ?_
  refine ci_iconst (v := 1) hG dX0_init_13 (by decide) ?_
  refine ci_iconst (v := 3) hG dX0_init_14 (by decide) ?_
  refine ci_iast (f := (upd (fun _ => 0) 0 3)) (w2 := [(h0, .inr (0, [.null])), (q1, .inl (k 0, 5, .inl (upd (upd (fun _ => 0) 0 3) 1 3)))]) hG 1 dX0_init_15 rfl (gg_vin (by decide +kernel)) rfl ?_
  refine ci_dup hG dX0_init_16 rfl ?_
  refine ci_iconst (v := 2) hG dX0_init_17 (by decide) ?_
  refine ci_iconst (v := 3) hG dX0_init_18 (by decide) ?_
  refine ci_iast (f := (upd (upd (fun _ => 0) 0 3) 1 3)) (w2 := [(h0, .inr (0, [.null])), (q1, .inl (k 0, 5, .inl (upd (upd (upd (fun _ => 0) 0 3) 1 3) 2 3)))]) hG 1 dX0_init_19 rfl (gg_vin (by decide +kernel)) rfl ?_
  refine ci_dup hG dX0_init_20 rfl ?_
  refine ci_iconst (v := 3) hG dX0_init_21 (by decide) ?_
  refine ci_iconst (v := 3) hG dX0_init_22 (by decide) ?_
  refine ci_iast (f := (upd (upd (upd (fun _ => 0) 0 3) 1 3) 2 3)) (w2 := [(h0, .inr (0, [.null])), (q1, .inl (k 0, 5, .inl (upd (upd (upd (upd (fun _ => 0) 0 3) 1 3) 2 3) 3 3)))]) hG 1 dX0_init_23 rfl (gg_vin (by decide +kernel)) rfl ?_
  refine ci_dup hG dX0_init_24 rfl ?_
  refine ci_iconst (v := 4) hG dX0_init_25 (by decide) ?_
  refine ci_iconst (v := 3) hG dX0_init_26 (by decide) ?_
  refine ci_iast (f := (upd (upd (upd (upd (fun _ => 0) 0 3) 1 3) 2 3) 3 3)) (w2 := [(h0, .inr (0, [.null])), (q1, .inl (k 0, 5, .inl (upd (upd (upd (upd (upd (fun _ => 0) 0 3) 1 3) 2 3) 3 3) 4 3)))]) hG 1 dX0_init_27 rfl (gg_vin (by decide +kernel)) rfl ?_
  refine ci_putF (ci := 0) (r := (RX0, TX0, 1)) (fs := [.null]) (v := .ref q1) (w2 := [(h0, .inr (0, [.ref q1])), (q1, .inl (k 0, 5, .inl (upd (upd (upd (upd (upd (fun _ => 0) 0 3) 1 3) 2 3) 3 3) 4 3)))]) hG 0 0 dX0_init_28 rfl rfl (by decide) wf_RX0_9 rfl rfl rfl rfl rfl (Nat.le_of_ble_eq_true rfl) rfl ?_
  exact ci_ret hG dX0_init_31 ⟨rfl, rfl⟩ ⟨fun i => [q1].getD i 0, rfl⟩
def pX1_init (k : Nat → ClassId) (h0 : Nat) (a : Nat → Nat) : va_W := [(h0, .inr (1, [.ref (a 0), .ref (a 1), .ref (a 2), .ref (a 6), .ref (a 10), .ref (a 11), .ref (a 12), .ref (a 13), .int 0, .int 0, .int 0])), ((a 0), .inl (k 1, 128, .inr (.inl (fun _ => 0)))), ((a 1), .inl (k 0, 32, .inl (fun _ => 0))), ((a 2), .inl (k 4, 3, .inr (.inr (.inr (.inr (fun i => [some (a 3), some (a 4), some (a 5)].getD i none)))))), ((a 3), .inl (k 0, 7, .inl (fun _ => 0))), ((a 4), .inl (k 0, 7, .inl (fun _ => 0))), ((a 5), .inl (k 0, 7, .inl (fun _ => 0))), ((a 6), .inl (k 4, 3, .inr (.inr (.inr (.inr (fun i => [some (a 7), some (a 8), some (a 9)].getD i none)))))), ((a 7), .inl (k 0, 7, .inl (fun _ => 0))), ((a 8), .inl (k 0, 7, .inl (fun _ => 0))), ((a 9), .inl (k 0, 7, .inl (fun _ => 0))), ((a 10), .inl (k 0, 4, .inl (fun _ => 0))), ((a 11), .inl (k 0, 4, .inl (fun _ => 0))), ((a 12), .inl (k 0, 3, .inl (fun _ => 0))), ((a 13), .inr (7, [.int 0, .int 0, .int 0, .int 0, .int 0, .int 0, .int 0, .int 0]))]
set_option maxHeartbeats 2000000 in
set_option maxRecDepth 20000 in
theorem ct_X1_init (k : Nat → ClassId) (h0 : Nat) : ci_Mt 2 14 227 yX1_init cX1_init 1 [.ref h0] [(h0, .inr (1, [.null, .null, .null, .null, .null, .null, .null, .null, .int 0, .int 0, .int 0]))] k (fun w1 => ∃ a : Nat → Nat, w1 = pX1_init k h0 a) := by
  refine ci_intro (own := RX1) (nm := "<init>") (L := [(0, .ref h0)]) (by decide +kernel) rfl rfl rfl (Nat.le_of_ble_eq_true rfl) (fun ad G hG => ?_)
  refine ci_aload_n hG 0 dX1_init_0 rfl rfl ?_
  refine ci_obj hG dX1_init_1 wm_RX1_3 wd_oi wd_oc (by decide) ?_
  refine ci_aload_n hG 0 dX1_init_4 rfl rfl ?_
  refine ci_sipush (v := 128) hG dX1_init_5 (by decide) ?_
  refine ci_newl (w2 := fun q1 => [(h0, .inr (1, [.null, .null, .null, .null, .null, .null, .null, .null, .int 0, .int 0, .int 0])), (q1, .inl (k 1, 128, .inr (.inl (fun _ => 0))))]) hG 128 dX1_init_8 wd_long (by decide) (by decide) (Nat.le_of_ble_eq_true rfl) ⟨Nat.le_of_ble_eq_true rfl, Nat.le_of_ble_eq_true rfl⟩ (fun _ => rfl) (fun q1 => ?_)
  refine ci_putF (ci := 1) (r := (RX1, TX1, 11)) (fs := [.null, .null, .null, .null, .null, .null, .null, .null, .int 0, .int 0, .int 0]) (v := .ref q1) (w2 := [(h0, .inr (1, [.ref q1, .null, .null, .null, .null, .null, .null, .null, .int 0, .int 0, .int 0])), (q1, .inl (k 1, 128, .inr (.inl (fun _ => 0))))]) hG 0 0 dX1_init_10 rfl rfl (by decide) wf_RX1_9 rfl rfl rfl rfl rfl (Nat.le_of_ble_eq_true rfl) rfl ?_
  refine ci_aload_n hG 0 dX1_init_13 rfl rfl ?_
  refine ci_bipush (v := 32) hG dX1_init_14 (by decide) ?_
  refine ci_newi (w2 := fun q2 => [(h0, .inr (1, [.ref q1, .null, .null, .null, .null, .null, .null, .null, .int 0, .int 0, .int 0])), (q1, .inl (k 1, 128, .inr (.inl (fun _ => 0)))), (q2, .inl (k 0, 32, .inl (fun _ => 0)))]) hG 32 dX1_init_16 wd_int (by decide) (by decide) (Nat.le_of_ble_eq_true rfl) ⟨Nat.le_of_ble_eq_true rfl, Nat.le_of_ble_eq_true rfl⟩ (fun _ => rfl) (fun q2 => ?_)
  refine ci_putF (ci := 1) (r := (RX1, TX1, 11)) (fs := [.ref q1, .null, .null, .null, .null, .null, .null, .null, .int 0, .int 0, .int 0]) (v := .ref q2) (w2 := [(h0, .inr (1, [.ref q1, .ref q2, .null, .null, .null, .null, .null, .null, .int 0, .int 0, .int 0])), (q1, .inl (k 1, 128, .inr (.inl (fun _ => 0)))), (q2, .inl (k 0, 32, .inl (fun _ => 0)))]) hG 0 1 dX1_init_18 rfl rfl (by decide) wf_RX1_15 rfl rfl rfl rfl rfl (Nat.le_of_ble_eq_true rfl) rfl ?_
  refine ci_aload_n hG 0 dX1_init_21 rfl rfl ?_
  refine ci_iconst (v := 3) hG dX1_init_22 (by decide) ?_
  refine ci_bipush (v := 7) hG dX1_init_23 (by decide) ?_
  refine ci_mna (w2 := fun q3 q4 q5 q6 => [(h0, .inr (1, [.ref q1, .ref q2, .null, .null, .null, .null, .null, .null, .int 0, .int 0, .int 0])), (q1, .inl (k 1, 128, .inr (.inl (fun _ => 0)))), (q2, .inl (k 0, 32, .inl (fun _ => 0))), (q3, .inl (k 4, 3, .inr (.inr (.inr (.inr (fun i => [some q4, some q5, some q6].getD i none)))))), (q4, .inl (k 0, 7, .inl (fun _ => 0))), (q5, .inl (k 0, 7, .inl (fun _ => 0))), (q6, .inl (k 0, 7, .inl (fun _ => 0)))]) hG dX1_init_25 wl_RX1_19 wd_int ⟨Nat.le_of_ble_eq_true rfl, Nat.le_of_ble_eq_true rfl⟩ (fun _ _ _ _ => rfl) (fun q3 q4 q5 q6 => ?_)
  refine ci_putF (ci := 1) (r := (RX1, TX1, 11)) (fs := [.ref q1, .ref q2, .null, .null, .null, .null, .null, .null, .int 0, .int 0, .int 0]) (v := .ref q3) (w2 := [(h0, .inr (1, [.ref q1, .ref q2, .ref q3, .null, .null, .null, .null, .null, .int 0, .int 0, .int 0])), (q1, .inl (k 1, 128, .inr (.inl (fun _ => 0)))), (q2, .inl (k 0, 32, .inl (fun _ => 0))), (q3, .inl (k 4, 3, .inr (.inr (.inr (.inr (fun i => [some q4, some q5, some q6].getD i none)))))), (q4, .inl (k 0, 7, .inl (fun _ => 0))), (q5, .inl (k 0, 7, .inl (fun _ => 0))), (q6, .inl (k 0, 7, .inl (fun _ => 0)))]) hG 0 2 dX1_init_29 rfl rfl (by decide) wf_RX1_21 rfl rfl rfl rfl rfl (Nat.le_of_ble_eq_true rfl) rfl ?_
  refine ci_aload_n hG 0 dX1_init_32 rfl rfl ?_
  refine ci_iconst (v := 3) hG dX1_init_33 (by decide) ?_
  refine ci_bipush (v := 7) hG dX1_init_34 (by decide) ?_
  refine ci_mna (w2 := fun q7 q8 q9 q10 => [(h0, .inr (1, [.ref q1, .ref q2, .ref q3, .null, .null, .null, .null, .null, .int 0, .int 0, .int 0])), (q1, .inl (k 1, 128, .inr (.inl (fun _ => 0)))), (q2, .inl (k 0, 32, .inl (fun _ => 0))), (q3, .inl (k 4, 3, .inr (.inr (.inr (.inr (fun i => [some q4, some q5, some q6].getD i none)))))), (q4, .inl (k 0, 7, .inl (fun _ => 0))), (q5, .inl (k 0, 7, .inl (fun _ => 0))), (q6, .inl (k 0, 7, .inl (fun _ => 0))), (q7, .inl (k 4, 3, .inr (.inr (.inr (.inr (fun i => [some q8, some q9, some q10].getD i none)))))), (q8, .inl (k 0, 7, .inl (fun _ => 0))), (q9, .inl (k 0, 7, .inl (fun _ => 0))), (q10, .inl (k 0, 7, .inl (fun _ => 0)))]) hG dX1_init_36 wl_RX1_19 wd_int ⟨Nat.le_of_ble_eq_true rfl, Nat.le_of_ble_eq_true rfl⟩ (fun _ _ _ _ => rfl) (fun q7 q8 q9 q10 => ?_)
  refine ci_putF (ci := 1) (r := (RX1, TX1, 11)) (fs := [.ref q1, .ref q2, .ref q3, .null, .null, .null, .null, .null, .int 0, .int 0, .int 0]) (v := .ref q7) (w2 := [(h0, .inr (1, [.ref q1, .ref q2, .ref q3, .ref q7, .null, .null, .null, .null, .int 0, .int 0, .int 0])), (q1, .inl (k 1, 128, .inr (.inl (fun _ => 0)))), (q2, .inl (k 0, 32, .inl (fun _ => 0))), (q3, .inl (k 4, 3, .inr (.inr (.inr (.inr (fun i => [some q4, some q5, some q6].getD i none)))))), (q4, .inl (k 0, 7, .inl (fun _ => 0))), (q5, .inl (k 0, 7, .inl (fun _ => 0))), (q6, .inl (k 0, 7, .inl (fun _ => 0))), (q7, .inl (k 4, 3, .inr (.inr (.inr (.inr (fun i => [some q8, some q9, some q10].getD i none)))))), (q8, .inl (k 0, 7, .inl (fun _ => 0))), (q9, .inl (k 0, 7, .inl (fun _ => 0))), (q10, .inl (k 0, 7, .inl (fun _ => 0)))]) hG 0 3 dX1_init_40 rfl rfl (by decide) wf_RX1_24 rfl rfl rfl rfl rfl (Nat.le_of_ble_eq_true rfl) rfl ?_
  refine ci_aload_n hG 0 dX1_init_43 rfl rfl ?_
  refine ci_iconst (v := 4) hG dX1_init_44 (by decide) ?_
  refine ci_newi (w2 := fun q11 => [(h0, .inr (1, [.ref q1, .ref q2, .ref q3, .ref q7, .null, .null, .null, .null, .int 0, .int 0, .int 0])), (q1, .inl (k 1, 128, .inr (.inl (fun _ => 0)))), (q2, .inl (k 0, 32, .inl (fun _ => 0))), (q3, .inl (k 4, 3, .inr (.inr (.inr (.inr (fun i => [some q4, some q5, some q6].getD i none)))))), (q4, .inl (k 0, 7, .inl (fun _ => 0))), (q5, .inl (k 0, 7, .inl (fun _ => 0))), (q6, .inl (k 0, 7, .inl (fun _ => 0))), (q7, .inl (k 4, 3, .inr (.inr (.inr (.inr (fun i => [some q8, some q9, some q10].getD i none)))))), (q8, .inl (k 0, 7, .inl (fun _ => 0))), (q9, .inl (k 0, 7, .inl (fun _ => 0))), (q10, .inl (k 0, 7, .inl (fun _ => 0))), (q11, .inl (k 0, 4, .inl (fun _ => 0)))]) hG 4 dX1_init_45 wd_int (by decide) (by decide) (Nat.le_of_ble_eq_true rfl) ⟨Nat.le_of_ble_eq_true rfl, Nat.le_of_ble_eq_true rfl⟩ (fun _ => rfl) (fun q11 => ?_)
  refine ci_putF (ci := 1) (r := (RX1, TX1, 11)) (fs := [.ref q1, .ref q2, .ref q3, .ref q7, .null, .null, .null, .null, .int 0, .int 0, .int 0]) (v := .ref q11) (w2 := [(h0, .inr (1, [.ref q1, .ref q2, .ref q3, .ref q7, .ref q11, .null, .null, .null, .int 0, .int 0, .int 0])), (q1, .inl (k 1, 128, .inr (.inl (fun _ => 0)))), (q2, .inl (k 0, 32, .inl (fun _ => 0))), (q3, .inl (k 4, 3, .inr (.inr (.inr (.inr (fun i => [some q4, some q5, some q6].getD i none)))))), (q4, .inl (k 0, 7, .inl (fun _ => 0))), (q5, .inl (k 0, 7, .inl (fun _ => 0))), (q6, .inl (k 0, 7, .inl (fun _ => 0))), (q7, .inl (k 4, 3, .inr (.inr (.inr (.inr (fun i => [some q8, some q9, some q10].getD i none)))))), (q8, .inl (k 0, 7, .inl (fun _ => 0))), (q9, .inl (k 0, 7, .inl (fun _ => 0))), (q10, .inl (k 0, 7, .inl (fun _ => 0))), (q11, .inl (k 0, 4, .inl (fun _ => 0)))]) hG 0 4 dX1_init_47 rfl rfl (by decide) wf_RX1_27 rfl rfl rfl rfl rfl (Nat.le_of_ble_eq_true rfl) rfl ?_
  refine ci_aload_n hG 0 dX1_init_50 rfl rfl ?_
  refine ci_iconst (v := 4) hG dX1_init_51 (by decide) ?_
  refine ci_newi (w2 := fun q12 => [(h0, .inr (1, [.ref q1, .ref q2, .ref q3, .ref q7, .ref q11, .null, .null, .null, .int 0, .int 0, .int 0])), (q1, .inl (k 1, 128, .inr (.inl (fun _ => 0)))), (q2, .inl (k 0, 32, .inl (fun _ => 0))), (q3, .inl (k 4, 3, .inr (.inr (.inr (.inr (fun i => [some q4, some q5, some q6].getD i none)))))), (q4, .inl (k 0, 7, .inl (fun _ => 0))), (q5, .inl (k 0, 7, .inl (fun _ => 0))), (q6, .inl (k 0, 7, .inl (fun _ => 0))), (q7, .inl (k 4, 3, .inr (.inr (.inr (.inr (fun i => [some q8, some q9, some q10].getD i none)))))), (q8, .inl (k 0, 7, .inl (fun _ => 0))), (q9, .inl (k 0, 7, .inl (fun _ => 0))), (q10, .inl (k 0, 7, .inl (fun _ => 0))), (q11, .inl (k 0, 4, .inl (fun _ => 0))), (q12, .inl (k 0, 4, .inl (fun _ => 0)))]) hG 4 dX1_init_52 wd_int (by decide) (by decide) (Nat.le_of_ble_eq_true rfl) ⟨Nat.le_of_ble_eq_true rfl, Nat.le_of_ble_eq_true rfl⟩ (fun _ => rfl) (fun q12 => ?_)
  refine ci_putF (ci := 1) (r := (RX1, TX1, 11)) (fs := [.ref q1, .ref q2, .ref q3, .ref q7, .ref q11, .null, .null, .null, .int 0, .int 0, .int 0]) (v := .ref q12) (w2 := [(h0, .inr (1, [.ref q1, .ref q2, .ref q3, .ref q7, .ref q11, .ref q12, .null, .null, .int 0, .int 0, .int 0])), (q1, .inl (k 1, 128, .inr (.inl (fun _ => 0)))), (q2, .inl (k 0, 32, .inl (fun _ => 0))), (q3, .inl (k 4, 3, .inr (.inr (.inr (.inr (fun i => [some q4, some q5, some q6].getD i none)))))), (q4, .inl (k 0, 7, .inl (fun _ => 0))), (q5, .inl (k 0, 7, .inl (fun _ => 0))), (q6, .inl (k 0, 7, .inl (fun _ => 0))), (q7, .inl (k 4, 3, .inr (.inr (.inr (.inr (fun i => [some q8, some q9, some q10].getD i none)))))), (q8, .inl (k 0, 7, .inl (fun _ => 0))), (q9, .inl (k 0, 7, .inl (fun _ => 0))), (q10, .inl (k 0, 7, .inl (fun _ => 0))), (q11, .inl (k 0, 4, .inl (fun _ => 0))), (q12, .inl (k 0, 4, .inl (fun _ => 0)))]) hG 0 5 dX1_init_54 rfl rfl (by decide) wf_RX1_30 rfl rfl rfl rfl rfl (Nat.le_of_ble_eq_true rfl) rfl ?_
  refine ci_aload_n hG 0 dX1_init_57 rfl rfl ?_
  refine ci_iconst (v := 3) hG dX1_init_58 (by decide) ?_
  refine ci_newi (w2 := fun q13 => [(h0, .inr (1, [.ref q1, .ref q2, .ref q3, .ref q7, .ref q11, .ref q12, .null, .null, .int 0, .int 0, .int 0])), (q1, .inl (k 1, 128, .inr (.inl (fun _ => 0)))), (q2, .inl (k 0, 32, .inl (fun _ => 0))), (q3, .inl (k 4, 3, .inr (.inr (.inr (.inr (fun i => [some q4, some q5, some q6].getD i none)))))), (q4, .inl (k 0, 7, .inl (fun _ => 0))), (q5, .inl (k 0, 7, .inl (fun _ => 0))), (q6, .inl (k 0, 7, .inl (fun _ => 0))), (q7, .inl (k 4, 3, .inr (.inr (.inr (.inr (fun i => [some q8, some q9, some q10].getD i none)))))), (q8, .inl (k 0, 7, .inl (fun _ => 0))), (q9, .inl (k 0, 7, .inl (fun _ => 0))), (q10, .inl (k 0, 7, .inl (fun _ => 0))), (q11, .inl (k 0, 4, .inl (fun _ => 0))), (q12, .inl (k 0, 4, .inl (fun _ => 0))), (q13, .inl (k 0, 3, .inl (fun _ => 0)))]) hG 3 dX1_init_59 wd_int (by decide) (by decide) (Nat.le_of_ble_eq_true rfl) ⟨Nat.le_of_ble_eq_true rfl, Nat.le_of_ble_eq_true rfl⟩ (fun _ => rfl) (fun q13 => ?_)
  refine ci_putF (ci := 1) (r := (RX1, TX1, 11)) (fs := [.ref q1, .ref q2, .ref q3, .ref q7, .ref q11, .ref q12, .null, .null, .int 0, .int 0, .int 0]) (v := .ref q13) (w2 := [(h0, .inr (1, [.ref q1, .ref q2, .ref q3, .ref q7, .ref q11, .ref q12, .ref q13, .null, .int 0, .int 0, .int 0])), (q1, .inl (k 1, 128, .inr (.inl (fun _ => 0)))), (q2, .inl (k 0, 32, .inl (fun _ => 0))), (q3, .inl (k 4, 3, .inr (.inr (.inr (.inr (fun i => [some q4, some q5, some q6].getD i none)))))), (q4, .inl (k 0, 7, .inl (fun _ => 0))), (q5, .inl (k 0, 7, .inl (fun _ => 0))), (q6, .inl (k 0, 7, .inl (fun _ => 0))), (q7, .inl (k 4, 3, .inr (.inr (.inr (.inr (fun i => [some q8, some q9, some q10].getD i none)))))), (q8, .inl (k 0, 7, .inl (fun _ => 0))), (q9, .inl (k 0, 7, .inl (fun _ => 0))), (q10, .inl (k 0, 7, .inl (fun _ => 0))), (q11, .inl (k 0, 4, .inl (fun _ => 0))), (q12, .inl (k 0, 4, .inl (fun _ => 0))), (q13, .inl (k 0, 3, .inl (fun _ => 0)))]) hG 0 6 dX1_init_61 rfl rfl (by decide) wf_RX1_33 rfl rfl rfl rfl rfl (Nat.le_of_ble_eq_true rfl) rfl ?_
  refine ci_aload_n hG 0 dX1_init_64 rfl rfl ?_
  refine ci_new (ci := 7) (r := (RX7, TX7, 8)) (fs := [.int 0, .int 0, .int 0, .int 0, .int 0, .int 0, .int 0, .int 0]) (w2 := fun q14 => [(h0, .inr (1, [.ref q1, .ref q2, .ref q3, .ref q7, .ref q11, .ref q12, .ref q13, .null, .int 0, .int 0, .int 0])), (q1, .inl (k 1, 128, .inr (.inl (fun _ => 0)))), (q2, .inl (k 0, 32, .inl (fun _ => 0))), (q3, .inl (k 4, 3, .inr (.inr (.inr (.inr (fun i => [some q4, some q5, some q6].getD i none)))))), (q4, .inl (k 0, 7, .inl (fun _ => 0))), (q5, .inl (k 0, 7, .inl (fun _ => 0))), (q6, .inl (k 0, 7, .inl (fun _ => 0))), (q7, .inl (k 4, 3, .inr (.inr (.inr (.inr (fun i => [some q8, some q9, some q10].getD i none)))))), (q8, .inl (k 0, 7, .inl (fun _ => 0))), (q9, .inl (k 0, 7, .inl (fun _ => 0))), (q10, .inl (k 0, 7, .inl (fun _ => 0))), (q11, .inl (k 0, 4, .inl (fun _ => 0))), (q12, .inl (k 0, 4, .inl (fun _ => 0))), (q13, .inl (k 0, 3, .inl (fun _ => 0))), (q14, .inr (7, [.int 0, .int 0, .int 0, .int 0, .int 0, .int 0, .int 0, .int 0]))]) hG dX1_init_65 rfl wl_RX1_36 wn_X7 wt_X7 nf_X7 ⟨Nat.le_of_ble_eq_true rfl, Nat.le_of_ble_eq_true rfl⟩ (fun _ => rfl) (fun q14 => ?_)
  refine ci_dup hG dX1_init_68 rfl ?_
  refine ci_callN (wr := [(h0, .inr (1, [.ref q1, .ref q2, .ref q3, .ref q7, .ref q11, .ref q12, .ref q13, .null, .int 0, .int 0, .int 0])), (q1, .inl (k 1, 128, .inr (.inl (fun _ => 0)))), (q2, .inl (k 0, 32, .inl (fun _ => 0))), (q3, .inl (k 4, 3, .inr (.inr (.inr (.inr (fun i => [some q4, some q5, some q6].getD i none)))))), (q4, .inl (k 0, 7, .inl (fun _ => 0))), (q5, .inl (k 0, 7, .inl (fun _ => 0))), (q6, .inl (k 0, 7, .inl (fun _ => 0))), (q7, .inl (k 4, 3, .inr (.inr (.inr (.inr (fun i => [some q8, some q9, some q10].getD i none)))))), (q8, .inl (k 0, 7, .inl (fun _ => 0))), (q9, .inl (k 0, 7, .inl (fun _ => 0))), (q10, .inl (k 0, 7, .inl (fun _ => 0))), (q11, .inl (k 0, 4, .inl (fun _ => 0))), (q12, .inl (k 0, 4, .inl (fun _ => 0))), (q13, .inl (k 0, 3, .inl (fun _ => 0)))]) (wc := [(q14, .inr (7, [.int 0, .int 0, .int 0, .int 0, .int 0, .int 0, .int 0, .int 0]))]) (As := []) (st := [.ref q14, .ref h0]) hG dX1_init_69 wm_RX1_38 Y_X7_init rfl wi_X7_init (ct_X7_init k q14) rfl (by decide) ⟨Nat.le_of_ble_eq_true rfl, Nat.le_of_ble_eq_true rfl⟩ (Nat.le_of_ble_eq_true rfl) rfl rfl ?_
  rintro _ ⟨a15, rfl⟩
  refine ci_putF (ci := 1) (r := (RX1, TX1, 11)) (fs := [.ref q1, .ref q2, .ref q3, .ref q7, .ref q11, .ref q12, .ref q13, .null, .int 0, .int 0, .int 0]) (v := .ref q14) (w2 := [(h0, .inr (1, [.ref q1, .ref q2, .ref q3, .ref q7, .ref q11, .ref q12, .ref q13, .ref q14, .int 0, .int 0, .int 0])), (q1, .inl (k 1, 128, .inr (.inl (fun _ => 0)))), (q2, .inl (k 0, 32, .inl (fun _ => 0))), (q3, .inl (k 4, 3, .inr (.inr (.inr (.inr (fun i => [some q4, some q5, some q6].getD i none)))))), (q4, .inl (k 0, 7, .inl (fun _ => 0))), (q5, .inl (k 0, 7, .inl (fun _ => 0))), (q6, .inl (k 0, 7, .inl (fun _ => 0))), (q7, .inl (k 4, 3, .inr (.inr (.inr (.inr (fun i => [some q8, some q9, some q10].getD i none)))))), (q8, .inl (k 0, 7, .inl (fun _ => 0))), (q9, .inl (k 0, 7, .inl (fun _ => 0))), (q10, .inl (k 0, 7, .inl (fun _ => 0))), (q11, .inl (k 0, 4, .inl (fun _ => 0))), (q12, .inl (k 0, 4, .inl (fun _ => 0))), (q13, .inl (k 0, 3, .inl (fun _ => 0))), (q14, .inr (7, [.int 0, .int 0, .int 0, .int 0, .int 0, .int 0, .int 0, .int 0]))]) hG 0 7 dX1_init_72 rfl rfl (by decide) wf_RX1_39 rfl rfl rfl rfl rfl (Nat.le_of_ble_eq_true rfl) rfl ?_
  exact ci_ret hG dX1_init_75 ⟨rfl, rfl⟩ ⟨fun i => [q1, q2, q3, q4, q5, q6, q7, q8, q9, q10, q11, q12, q13, q14].getD i 0, rfl⟩
