/-! the law: its first bytes -/
theorem Y_X10_init : gg_Y yX10_init cX10_init 2 none 0 := gg_Y_of (gg_in 73 (by decide +kernel) (by decide +kernel)) (gg_in 53 (by decide +kernel) (by decide +kernel)) (by decide) (by decide +kernel) (by decide)
theorem wi_X10_init : Cond.instanceMethod yX10_init ∈ gg_tG := (gg_in 72 (by decide +kernel) (by decide +kernel))
theorem Y_X11_init : gg_Y yX11_init cX11_init 2 none 0 := gg_Y_of (gg_in 782 (by decide +kernel) (by decide +kernel)) (gg_in 65 (by decide +kernel) (by decide +kernel)) (by decide) (by decide +kernel) (by decide)
theorem wi_X11_init : Cond.instanceMethod yX11_init ∈ gg_tG := (gg_in 781 (by decide +kernel) (by decide +kernel))
theorem wl_RL_7 : Cond.classLink RL 7 RX10 ∈ gg_tG := (gg_in 69 (by decide +kernel) (by decide +kernel))
theorem wt_X10 : Cond.initialized RX10 ∈ gg_tG := (gg_in 53 (by decide +kernel) (by decide +kernel))
theorem wl_RL_10 : Cond.classLink RL 10 RX11 ∈ gg_tG := (gg_in 778 (by decide +kernel) (by decide +kernel))
theorem wt_X11 : Cond.initialized RX11 ∈ gg_tG := (gg_in 65 (by decide +kernel) (by decide +kernel))
theorem wm_RL_9 : Cond.methodLink RL 9 yX10_init ∈ gg_tG := (gg_in 71 (by decide +kernel) (by decide +kernel))
theorem wm_RL_12 : Cond.methodLink RL 12 yX11_init ∈ gg_tG := (gg_in 780 (by decide +kernel) (by decide +kernel))
set_option maxHeartbeats 2000000 in
set_option maxRecDepth 20000 in
theorem law_make {nm : String} {k : Nat → ClassId} {ad : Nat → Nat} {G : ci_T} {b : Nat} (hG : ci_Cl nm code 4 RL 12 65 2713 k ad (fun _ => False) G) (hk : ∀ h m a b2, G (WS k h m a b2) 65 2713 16 [(2, .ref m), (1, .ref h), (0, .ref b)] []) : G [] 0 0 0 [(0, .ref b)] [] := by
  refine ci_new (ci := 10) (r := (RX10, TX10, 12)) (fs := [.null, .null, .null, .null, .null, .null, .null, .null, .null, .null, .null, .int 0]) (w2 := fun q1 => [(q1, .inr (10, [.null, .null, .null, .null, .null, .null, .null, .null, .null, .null, .null, .int 0]))]) hG dL_law_0 rfl wl_RL_7 wn_X10 wt_X10 nf_X10 ⟨Nat.le_of_ble_eq_true rfl, Nat.le_of_ble_eq_true rfl⟩ (fun _ => rfl) (fun q1 => ?_)
  refine ci_dup hG dL_law_3 rfl ?_
  refine ci_call (wr := []) (wc := [(q1, .inr (10, [.null, .null, .null, .null, .null, .null, .null, .null, .null, .null, .null, .int 0]))]) (As := []) (st := [.ref q1]) hG dL_law_4 wm_RL_9 Y_X10_init rfl wi_X10_init (ct_X10_init k q1) rfl (by decide) ⟨Nat.le_of_ble_eq_true rfl, Nat.le_of_ble_eq_true rfl⟩ (Nat.le_of_ble_eq_true rfl) rfl rfl ?_
  rintro _ ⟨a, rfl⟩
  refine ci_astore_n (L1 := [(1, .ref q1), (0, .ref b)]) hG dL_law_7 rfl (by decide) rfl ?_
  refine ci_new (ci := 11) (r := (RX11, TX11, 25)) (fs := [.null, .null, .null, .null, .int 0, .int 0, .null, .null, .int 0, .null, .null, .null, .long 0, .null, .int 0, .int 0, .null, .null, .null, .null, .null, .null, .null, .null, .int 0]) (w2 := fun q3 => pX10_init k q1 a ++ [(q3, .inr (11, [.null, .null, .null, .null, .int 0, .int 0, .null, .null, .int 0, .null, .null, .null, .long 0, .null, .int 0, .int 0, .null, .null, .null, .null, .null, .null, .null, .null, .int 0]))]) hG dL_law_8 rfl wl_RL_10 wn_X11 wt_X11 nf_X11 ⟨Nat.le_of_ble_eq_true rfl, Nat.le_of_ble_eq_true rfl⟩ (fun _ => rfl) (fun q3 => ?_)
  refine ci_dup hG dL_law_11 rfl ?_
  refine ci_call (wr := pX10_init k q1 a) (wc := [(q3, .inr (11, [.null, .null, .null, .null, .int 0, .int 0, .null, .null, .int 0, .null, .null, .null, .long 0, .null, .int 0, .int 0, .null, .null, .null, .null, .null, .null, .null, .null, .int 0]))]) (As := []) (st := [.ref q3]) hG dL_law_12 wm_RL_12 Y_X11_init rfl wi_X11_init (ct_X11_init k q3) rfl (by decide) ⟨Nat.le_of_ble_eq_true rfl, Nat.le_of_ble_eq_true rfl⟩ (Nat.le_of_ble_eq_true rfl) rfl rfl ?_
  rintro _ ⟨b2, rfl⟩
  refine ci_astore_n (L1 := [(2, .ref q3), (1, .ref q1), (0, .ref b)]) hG dL_law_15 rfl (by decide) rfl ?_
  exact hk q1 q3 a b2
theorem whole_start {p : Program} {e : Env} {s : State} {m : MethodId} {below : List Frame} {meth : Method} {c : Code} (l : Launch) (hflags : l.flags = flags0) {b L : Nat} {xs : Nat → Int32} (hL : L ≤ 3072) (C0 : lw_At p s m meth c b L xs) : W p l e room_1 s m #[Value.ref b] below meth c s.heap [] 0 0 (lw_Z below #[Value.ref b] s) (entryFrame m ([Value.ref b] : List Value).toArray 4) := by
  obtain ⟨hx, hb, hr, hml, hown, hts, hX, hbl, hlocks, hgv⟩ := C0
  have hown : s.vm.findClass RL = some m.cls := hown
  have htG : ∀ w ∈ gg_tG, w.before #[Value.ref b] s = true := fun w hw => hts w (List.mem_filter.mp hw).1
  obtain ⟨D, k, hB⟩ := st_B hts
  have hAn : ∀ a : Nat, a < s.heap.size → ¬ s.heap.size ≤ a := fun a h1 h2 => by omega
  have hSt := fun k => st_S (A := fun q => s.heap.size ≤ q) hgv hts hAn k
  obtain ⟨f, hf⟩ : ∃ f : Nat → Nat, ∀ k, k < 5 → va_Z (gg_sn k).1 (gg_sn k).2.1 (gg_sn k).2.2 (.ref (f k)) (fun q => s.heap.size ≤ q) s s.heap ∧ va_T (gg_st k) (f k) (gg_sl k) (fun j => .int (gg_sv k j)) (fun q => s.heap.size ≤ q) s s.heap := ⟨fun k => Classical.choose (hSt k), fun k hk => Classical.choose_spec (hSt k) hk⟩
  obtain ⟨adS, hbS, hS0⟩ : ∃ adS : Nat → Nat, adS 110 = b ∧ gg_S adS (fun q => s.heap.size ≤ q) s s.heap := by
    refine ⟨fun t => if t = 110 then b else f (t - 100), if_pos rfl, fun k hk => ?_⟩
    have e : (fun t => if t = 110 then b else f (t - 100)) (100 + k) = f k := by
      show (if 100 + k = 110 then b else f (100 + k - 100)) = f k
      rw [if_neg (by omega), Nat.add_sub_cancel_left]
    rw [e]
    exact hf k hk
  have hle := lv_entry ([Value.ref b] : List Value) (n := 4) (Nat.le_of_ble_eq_true rfl)
  rw [lg_entry_eq]
  generalize (lg_sl [Value.ref b] ++ List.replicate (4 - (lg_sl [Value.ref b]).length) Slot.unset).toArray = ls at hle ⊢
  have hG : ci_Cl meth.name code 4 RL 12 65 2713 k adS (fun _ => False) (ci_G p l e room_1 s m #[Value.ref b] below meth c D (fun q => s.heap.size ≤ q) (lw_Z below #[Value.ref b] s) 4) := ⟨p, l, e, room_1, s, m, _, below, meth, c, D, _, _, ⟨hx, hb, hml, hown, htG, ⟨Nat.le_of_ble_eq_true rfl, Nat.le_of_ble_eq_true rfl, Nat.le_of_ble_eq_true rfl, Nat.le_of_ble_eq_true rfl⟩, hB, hS0, fun q h => h, rfl, fun _ _ _ _ _ _ _ _ h _ => h.elim⟩, rfl⟩
  refine law_make (b := b) hG (fun h m2 a b2 => ?_) s.heap [] ls (fun i q hq => by simp at hq) ⟨fun i j p q hp => by simp at hp, fun i q hq => by simp at hq⟩ va_S.rf hle
  intro H locs ls hP hD hS hl
  have e110 : AD h m2 a b2 adS 110 = b := hbS
  have hG2 : gg_Cl (some (L, xs)) code 4 RL ret 12 (gg_eI (fun x _ => x = 1)) (gg_G p l e room_1 s m #[Value.ref b] below meth c D (CAk k) (AD h m2 a b2 adS) (fun q => s.heap.size ≤ q) 65 2713 (lw_Z below #[Value.ref b] s) 4) := by
    refine ⟨p, l, e, room_1, s, m, _, below, meth, c, D, _, _, _, 65, 2713, _, ⟨hx, hb, hml, hown, htG, ⟨Nat.le_of_ble_eq_true rfl, Nat.le_of_ble_eq_true rfl, Nat.le_of_ble_eq_true rfl, Nat.le_of_ble_eq_true rfl⟩, shape_K hB, fun k hk => ?_, shape_I k h m2 a b2 adS hD, shape_A k h m2 a b2 adS hD, hB.2.1, fun L1 xs1 hq => ?_, ?_⟩, rfl⟩
    · have e1 : AD h m2 a b2 adS (100 + k) = adS (100 + k) := if_neg (by omega)
      rw [e1]
      exact hS0 k hk
    · cases hq
      obtain ⟨scr, h1, h2, h3, h4, h5⟩ := hX
      rw [e110]
      exact ⟨scr, h1, h2, h3, Nat.le_of_eq h4.symm, by rw [h4], h5, hAn b hbl⟩
    · intro H locs ls pc v u hP hS hE hk
      obtain ⟨x, rfl, rfl⟩ := hE
      obtain ⟨-, hd⟩ := hk
      exact va_forget (fun q hq => hS.2.2 q hq) (W.widen (k := 600000) (n := 7302250) (Nat.le_of_ble_eq_true rfl) (Nat.le_of_ble_eq_true rfl) (lw_ret hx hb hr hlocks hd))
  have hl2 : lv_has ls 4 [(0, .ref b), (1, .ref h), (2, .ref m2)] := lv_sub hl [2, 1, 0] rfl
  have el : gg_lp (AD h m2 a b2 adS) 0 [some (.ref 110), some (.ref 0), some (.ref 1), none] = [(0, .ref b), (1, .ref h), (2, .ref m2)] := by
    show [(0, Value.ref (AD h m2 a b2 adS 110)), (1, .ref h), (2, .ref m2)] = _
    rw [e110]
  exact m_L_law hG2 (law_s hL u0_I (fun _ => rfl)) H locs ls (shape_P k h m2 a b2 adS hP) hS ⟨rfl, by rw [el]; exact hl2⟩
