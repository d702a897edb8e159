def gu_ushr (x y : Int32) : Int32 := (x.toUInt32 >>> (y.toUInt32 &&& Int32.toUInt32 31)).toInt32
def gu_lshl (x : Int64) (y : Int32) : Int64 := x <<< (y.toInt64 &&& 63)
def gu_lushr (x : Int64) (y : Int32) : Int64 := (x.toUInt64 >>> (y.toInt64.toUInt64 &&& Int64.toUInt64 63)).toInt64
theorem gg_vin {i : Int32} {n : Nat} (h : (decide (i < 0) || decide (n ≤ i.toNatClampNeg)) = false) : vp_in i n := by
  unfold vp_in
  simpa using h
theorem gg_nb {x : Int32} (h : x = 0 ∨ x = 1) : narrow .boolean (.int x) = .int x ∧ fits .boolean (.int x) = true := by
  rcases h with rfl | rfl <;> exact ⟨by decide, by decide⟩
theorem gg_fvI {u : gg_M} {t j c : Nat} (h : gg_kd t = c) (hf : gg_fk c j = 0) : gg_fv u t j = .int (u.1 t j) := by
  unfold gg_fv
  rw [h, hf]
  rfl
theorem gg_fvR {u : gg_M} {t j c : Nat} (h : gg_kd t = c) (hf : gg_fk c j = 2) : gg_fv u t j = .ref (gg_rf t j) := by
  unfold gg_fv
  rw [h, hf]
  rfl
def gg_FL (own : String) (idx c0 j : Nat) : Prop := ∃ q : vw_C, gg_cls[c0]? = some q ∧ j < q.2.2 ∧ Cond.fieldLink own idx (q.2.1 j).1 (q.2.1 j).2.1 (q.2.1 j).2.2.1 ∈ gg_tG
def gg_FP (own : String) (idx c0 j : Nat) : Prop := ∃ q : vw_C, gg_cls[c0]? = some q ∧ j < q.2.2 ∧ Cond.fieldLink own idx (q.2.1 j).1 (q.2.1 j).2.1 (q.2.1 j).2.2.1 ∈ gg_tG ∧ (q.2.1 j).2.2.2 = false
def gg_Y (y : MethodName) (cy : ByteArray) (nLy : Nat) (rt : Option FieldType) (n : Nat) : Prop := Cond.code y cy nLy rt ∈ gg_tG ∧ Cond.initialized y.cls ∈ gg_tG ∧ (y.cls ≠ "java/lang/invoke/MethodHandle" ∧ y.cls ≠ "java/lang/invoke/VarHandle") ∧ (∀ sig, parseMethodDescriptor y.desc = some sig → n = sig.parameters.length) ∧ nLy ≤ 40
def gg_YV (y : MethodName) : Prop := Cond.instanceMethod y ∈ gg_tG ∧ Cond.selects y.cls y y ∈ gg_tG
theorem gg_Y_of {y : MethodName} {cy : ByteArray} {nLy : Nat} {rt : Option FieldType} {n : Nat} (h1 : Cond.code y cy nLy rt ∈ gg_tG) (h2 : Cond.initialized y.cls ∈ gg_tG) (h3 : y.cls ≠ "java/lang/invoke/MethodHandle" ∧ y.cls ≠ "java/lang/invoke/VarHandle") (h4 : (parseMethodDescriptor y.desc).map (fun d => d.parameters.length) = some n) (h5 : nLy ≤ 40) : gg_Y y cy nLy rt n := ⟨h1, h2, h3, fun sig h => by rw [h] at h4; exact (Option.some.inj h4).symm, h5⟩
theorem gg_in {w : Cond} (i : Nat) (h : lw_tbl[i]? = some w) (hg : goodWord w = true) : w ∈ gg_tG := List.mem_filter.mpr ⟨List.mem_of_getElem? h, hg⟩
theorem gg_inX0 : ∀ w ∈ u_ws RX0 TX0 1, w ∈ gg_tG := by decide +kernel
theorem gg_inX1 : ∀ w ∈ u_ws RX1 TX1 11, w ∈ gg_tG := by decide +kernel
theorem gg_inX2 : ∀ w ∈ u_ws RX2 TX2 3, w ∈ gg_tG := by decide +kernel
theorem gg_inX3 : ∀ w ∈ u_ws RX3 TX3 6, w ∈ gg_tG := by decide +kernel
theorem gg_inX4 : ∀ w ∈ u_ws RX4 TX4 2, w ∈ gg_tG := by decide +kernel
theorem gg_inX5 : ∀ w ∈ u_ws RX5 TX5 3, w ∈ gg_tG := by decide +kernel
theorem gg_inX6 : ∀ w ∈ u_ws RX6 TX6 3, w ∈ gg_tG := by decide +kernel
theorem gg_inX7 : ∀ w ∈ u_ws RX7 TX7 8, w ∈ gg_tG := by decide +kernel
theorem gg_inX8 : ∀ w ∈ u_ws RX8 TX8 2, w ∈ gg_tG := by decide +kernel
theorem gg_inX9 : ∀ w ∈ u_ws RX9 TX9 3, w ∈ gg_tG := by decide +kernel
theorem gg_inX10 : ∀ w ∈ u_ws RX10 TX10 12, w ∈ gg_tG := by decide +kernel
theorem gg_inX11 : ∀ w ∈ u_ws RX11 TX11 25, w ∈ gg_tG := by decide +kernel
theorem gg_clsF {c0 : Nat} {q : vw_C} (h : gg_cls[c0]? = some q) : c0 < 12 ∧ q.2.2 = gg_nf c0 ∧ (∀ w ∈ u_ws q.1 q.2.1 q.2.2, w ∈ gg_tG) ∧ (∀ k, k < q.2.2 → parseFieldDescriptor (q.2.1 k).2.2.1 = some (gg_ft c0 k)) ∧ ∀ a, a < q.2.2 → ∀ b, b < q.2.2 → a ≠ b → (q.2.1 a).2.1 ≠ (q.2.1 b).2.1 := by
  match c0, h with
  | 0, h => cases h; exact ⟨by decide, rfl, gg_inX0, tyX0_ok, nmX0⟩
  | 1, h => cases h; exact ⟨by decide, rfl, gg_inX1, tyX1_ok, nmX1⟩
  | 2, h => cases h; exact ⟨by decide, rfl, gg_inX2, tyX2_ok, nmX2⟩
  | 3, h => cases h; exact ⟨by decide, rfl, gg_inX3, tyX3_ok, nmX3⟩
  | 4, h => cases h; exact ⟨by decide, rfl, gg_inX4, tyX4_ok, nmX4⟩
  | 5, h => cases h; exact ⟨by decide, rfl, gg_inX5, tyX5_ok, nmX5⟩
  | 6, h => cases h; exact ⟨by decide, rfl, gg_inX6, tyX6_ok, nmX6⟩
  | 7, h => cases h; exact ⟨by decide, rfl, gg_inX7, tyX7_ok, nmX7⟩
  | 8, h => cases h; exact ⟨by decide, rfl, gg_inX8, tyX8_ok, nmX8⟩
  | 9, h => cases h; exact ⟨by decide, rfl, gg_inX9, tyX9_ok, nmX9⟩
  | 10, h => cases h; exact ⟨by decide, rfl, gg_inX10, tyX10_ok, nmX10⟩
  | 11, h => cases h; exact ⟨by decide, rfl, gg_inX11, tyX11_ok, nmX11⟩
  | k + 12, h => simp at h
section GGR
variable {X : Option (Nat × (Nat → Int32))} {cc : ByteArray} {nL : Nat} {own : String} {rt : Option FieldType} {h : Nat} {E : Option Value → gg_M → Prop} {G : gg_T} {pc : Nat} {L : List (Option Value)} {st : List Value} {u : gg_M}
theorem gg_iconst (hG : gg_Cl X cc nL own rt h E G) {n : Int} {v : Int32} (hd : decode cc pc = .ok (.iconst n, 1)) (hv : Int32.ofInt n = v) (k : G (pc + 1) L (.int v :: st) u) : G pc L (st) u := by
  obtain ⟨p, l, e, R, s, m, args, below, meth, c, D, ca, ad, A, cells, slots, Q, ⟨hx, hb, hml, hown, hts, hR, hK, hS0, hI, hA, hN, hX, hE⟩, rfl⟩ := hG
  intro H locs ls hP hS hl
  exact lv_iconst hx hb hd hv (k H locs ls hP hS hl)
theorem gg_bipush (hG : gg_Cl X cc nL own rt h E G) {n : Int} {v : Int32} (hd : decode cc pc = .ok (.bipush n, 2)) (hv : (Int8.ofInt n).toInt32 = v) (k : G (pc + 2) L (.int v :: st) u) : G pc L (st) u := by
  obtain ⟨p, l, e, R, s, m, args, below, meth, c, D, ca, ad, A, cells, slots, Q, ⟨hx, hb, hml, hown, hts, hR, hK, hS0, hI, hA, hN, hX, hE⟩, rfl⟩ := hG
  intro H locs ls hP hS hl
  exact lv_bipush hx hb hd hv (k H locs ls hP hS hl)
theorem gg_sipush (hG : gg_Cl X cc nL own rt h E G) {n : Int} {v : Int32} (hd : decode cc pc = .ok (.sipush n, 3)) (hv : (Int16.ofInt n).toInt32 = v) (k : G (pc + 3) L (.int v :: st) u) : G pc L (st) u := by
  obtain ⟨p, l, e, R, s, m, args, below, meth, c, D, ca, ad, A, cells, slots, Q, ⟨hx, hb, hml, hown, hts, hR, hK, hS0, hI, hA, hN, hX, hE⟩, rfl⟩ := hG
  intro H locs ls hP hS hl
  exact lv_sipush hx hb hd hv (k H locs ls hP hS hl)
theorem gg_lconst (hG : gg_Cl X cc nL own rt h E G) {n : Fin 2} {v : Int64} (hd : decode cc pc = .ok (.lconst n, 1)) (hv : Int64.ofNat (n : Nat) = v) (k : G (pc + 1) L (.long v :: st) u) : G pc L (st) u := by
  obtain ⟨p, l, e, R, s, m, args, below, meth, c, D, ca, ad, A, cells, slots, Q, ⟨hx, hb, hml, hown, hts, hR, hK, hS0, hI, hA, hN, hX, hE⟩, rfl⟩ := hG
  intro H locs ls hP hS hl
  exact lv_lconst hx hb hd hv (k H locs ls hP hS hl)
theorem gg_ldc (hG : gg_Cl X cc nL own rt h E G) {idx : Nat} {v : Int32} (hd : decode cc pc = .ok (.ldc idx, 2)) (hc : Cond.constant own idx v ∈ gg_tG) (k : G (pc + 2) L (.int v :: st) u) : G pc L st u := by
  obtain ⟨p, l, e, R, s, m, args, below, meth, c, D, ca, ad, A, cells, slots, Q, ⟨hx, hb, hml, hown, hts, hR, hK, hS0, hI, hA, hN, hX, hE⟩, rfl⟩ := hG
  intro H locs ls hP hS hl
  exact lv_ldc hx hb hown (hts _ hc) hd (k H locs ls hP hS hl)
theorem gg_ldcw (hG : gg_Cl X cc nL own rt h E G) {idx : Nat} {v : Int32} (hd : decode cc pc = .ok (.ldc_w idx, 3)) (hc : Cond.constant own idx v ∈ gg_tG) (k : G (pc + 3) L (.int v :: st) u) : G pc L st u := by
  obtain ⟨p, l, e, R, s, m, args, below, meth, c, D, ca, ad, A, cells, slots, Q, ⟨hx, hb, hml, hown, hts, hR, hK, hS0, hI, hA, hN, hX, hE⟩, rfl⟩ := hG
  intro H locs ls hP hS hl
  exact lv_ldcw hx hb hown (hts _ hc) hd (k H locs ls hP hS hl)
theorem gg_ldc2 (hG : gg_Cl X cc nL own rt h E G) {idx : Nat} {v : Int64} (hd : decode cc pc = .ok (.ldc2_w idx, 3)) (hc : Cond.constantLong own idx v ∈ gg_tG) (k : G (pc + 3) L (.long v :: st) u) : G pc L st u := by
  obtain ⟨p, l, e, R, s, m, args, below, meth, c, D, ca, ad, A, cells, slots, Q, ⟨hx, hb, hml, hown, hts, hR, hK, hS0, hI, hA, hN, hX, hE⟩, rfl⟩ := hG
  intro H locs ls hP hS hl
  exact lv_ldc2 hx hb hown (hts _ hc) hd (k H locs ls hP hS hl)
theorem gg_iload_n (hG : gg_Cl X cc nL own rt h E G) {k0 : Fin 4} {i : Nat} {x : Int32} (hd : decode cc pc = .ok (.iload_n k0, 1)) (hi : (k0 : Nat) = i) (hL : L[i]? = some (some (.int x))) (k : G (pc + 1) L (.int x :: st) u) : G pc L st u := by
  obtain ⟨p, l, e, R, s, m, args, below, meth, c, D, ca, ad, A, cells, slots, Q, ⟨hx, hb, hml, hown, hts, hR, hK, hS0, hI, hA, hN, hX, hE⟩, rfl⟩ := hG
  intro H locs ls hP hS hl
  exact lv_iload_n hx hb hd hi (gg_lv_at hl hL) (k H locs ls hP hS hl)
theorem gg_iload (hG : gg_Cl X cc nL own rt h E G) {i : Nat} {x : Int32} (hd : decode cc pc = .ok (.iload i, 2)) (hL : L[i]? = some (some (.int x))) (k : G (pc + 2) L (.int x :: st) u) : G pc L st u := by
  obtain ⟨p, l, e, R, s, m, args, below, meth, c, D, ca, ad, A, cells, slots, Q, ⟨hx, hb, hml, hown, hts, hR, hK, hS0, hI, hA, hN, hX, hE⟩, rfl⟩ := hG
  intro H locs ls hP hS hl
  exact lv_iload hx hb hd (gg_lv_at hl hL) (k H locs ls hP hS hl)
theorem gg_istore_n (hG : gg_Cl X cc nL own rt h E G) {k0 : Fin 4} {i : Nat} {x : Int32} {L1 : List (Option Value)} (hd : decode cc pc = .ok (.istore_n k0, 1)) (hi : (k0 : Nat) = i) (hn : i < nL) (hL : gg_s1 L i (.int x) = L1) (k : G (pc + 1) L1 st u) : G pc L (.int x :: st) u := by
  obtain ⟨p, l, e, R, s, m, args, below, meth, c, D, ca, ad, A, cells, slots, Q, ⟨hx, hb, hml, hown, hts, hR, hK, hS0, hI, hA, hN, hX, hE⟩, rfl⟩ := hG
  intro H locs ls hP hS hl
  exact lv_istore_n hx hb hd hi hl.2 hn rfl (fun ls1 hl1 => k H locs ls1 hP hS (hL ▸ gg_lv_s1 (v := .int x) hl.1 hl1))
theorem gg_istore (hG : gg_Cl X cc nL own rt h E G) {i : Nat} {x : Int32} {L1 : List (Option Value)} (hd : decode cc pc = .ok (.istore i, 2)) (hn : i < nL) (hL : gg_s1 L i (.int x) = L1) (k : G (pc + 2) L1 st u) : G pc L (.int x :: st) u := by
  obtain ⟨p, l, e, R, s, m, args, below, meth, c, D, ca, ad, A, cells, slots, Q, ⟨hx, hb, hml, hown, hts, hR, hK, hS0, hI, hA, hN, hX, hE⟩, rfl⟩ := hG
  intro H locs ls hP hS hl
  exact lv_istore hx hb hd hl.2 hn rfl (fun ls1 hl1 => k H locs ls1 hP hS (hL ▸ gg_lv_s1 (v := .int x) hl.1 hl1))
theorem gg_lload_n (hG : gg_Cl X cc nL own rt h E G) {k0 : Fin 4} {i : Nat} {x : Int64} (hd : decode cc pc = .ok (.lload_n k0, 1)) (hi : (k0 : Nat) = i) (hL : L[i]? = some (some (.long x))) (k : G (pc + 1) L (.long x :: st) u) : G pc L st u := by
  obtain ⟨p, l, e, R, s, m, args, below, meth, c, D, ca, ad, A, cells, slots, Q, ⟨hx, hb, hml, hown, hts, hR, hK, hS0, hI, hA, hN, hX, hE⟩, rfl⟩ := hG
  intro H locs ls hP hS hl
  exact lv_lload_n hx hb hd hi (gg_lv_at hl hL) (k H locs ls hP hS hl)
theorem gg_lload (hG : gg_Cl X cc nL own rt h E G) {i : Nat} {x : Int64} (hd : decode cc pc = .ok (.lload i, 2)) (hL : L[i]? = some (some (.long x))) (k : G (pc + 2) L (.long x :: st) u) : G pc L st u := by
  obtain ⟨p, l, e, R, s, m, args, below, meth, c, D, ca, ad, A, cells, slots, Q, ⟨hx, hb, hml, hown, hts, hR, hK, hS0, hI, hA, hN, hX, hE⟩, rfl⟩ := hG
  intro H locs ls hP hS hl
  exact lv_lload hx hb hd (gg_lv_at hl hL) (k H locs ls hP hS hl)
theorem gg_lstore_n (hG : gg_Cl X cc nL own rt h E G) {k0 : Fin 4} {i : Nat} {x : Int64} {L1 : List (Option Value)} (hd : decode cc pc = .ok (.lstore_n k0, 1)) (hi : (k0 : Nat) = i) (hn : i + 1 < nL) (hL : gg_s2 L i (.long x) = L1) (k : G (pc + 1) L1 st u) : G pc L (.long x :: st) u := by
  obtain ⟨p, l, e, R, s, m, args, below, meth, c, D, ca, ad, A, cells, slots, Q, ⟨hx, hb, hml, hown, hts, hR, hK, hS0, hI, hA, hN, hX, hE⟩, rfl⟩ := hG
  intro H locs ls hP hS hl
  exact lv_lstore_n hx hb hd hi hl.2 hn rfl (fun ls1 hl1 => k H locs ls1 hP hS (hL ▸ gg_lv_s2 (v := .long x) hl.1 hl1))
theorem gg_lstore (hG : gg_Cl X cc nL own rt h E G) {i : Nat} {x : Int64} {L1 : List (Option Value)} (hd : decode cc pc = .ok (.lstore i, 2)) (hn : i + 1 < nL) (hL : gg_s2 L i (.long x) = L1) (k : G (pc + 2) L1 st u) : G pc L (.long x :: st) u := by
  obtain ⟨p, l, e, R, s, m, args, below, meth, c, D, ca, ad, A, cells, slots, Q, ⟨hx, hb, hml, hown, hts, hR, hK, hS0, hI, hA, hN, hX, hE⟩, rfl⟩ := hG
  intro H locs ls hP hS hl
  exact lv_lstore hx hb hd hl.2 hn rfl (fun ls1 hl1 => k H locs ls1 hP hS (hL ▸ gg_lv_s2 (v := .long x) hl.1 hl1))
theorem gg_aload_n (hG : gg_Cl X cc nL own rt h E G) {k0 : Fin 4} {i : Nat} {x : Nat} (hd : decode cc pc = .ok (.aload_n k0, 1)) (hi : (k0 : Nat) = i) (hL : L[i]? = some (some (.ref x))) (k : G (pc + 1) L (.ref x :: st) u) : G pc L st u := by
  obtain ⟨p, l, e, R, s, m, args, below, meth, c, D, ca, ad, A, cells, slots, Q, ⟨hx, hb, hml, hown, hts, hR, hK, hS0, hI, hA, hN, hX, hE⟩, rfl⟩ := hG
  intro H locs ls hP hS hl
  exact lv_aload_n hx hb hd hi (gg_lv_at hl hL) (k H locs ls hP hS hl)
theorem gg_aload (hG : gg_Cl X cc nL own rt h E G) {i : Nat} {x : Nat} (hd : decode cc pc = .ok (.aload i, 2)) (hL : L[i]? = some (some (.ref x))) (k : G (pc + 2) L (.ref x :: st) u) : G pc L st u := by
  obtain ⟨p, l, e, R, s, m, args, below, meth, c, D, ca, ad, A, cells, slots, Q, ⟨hx, hb, hml, hown, hts, hR, hK, hS0, hI, hA, hN, hX, hE⟩, rfl⟩ := hG
  intro H locs ls hP hS hl
  exact lv_aload hx hb hd (gg_lv_at hl hL) (k H locs ls hP hS hl)
theorem gg_astore_n (hG : gg_Cl X cc nL own rt h E G) {k0 : Fin 4} {i : Nat} {x : Nat} {L1 : List (Option Value)} (hd : decode cc pc = .ok (.astore_n k0, 1)) (hi : (k0 : Nat) = i) (hn : i < nL) (hL : gg_s1 L i (.ref x) = L1) (k : G (pc + 1) L1 st u) : G pc L (.ref x :: st) u := by
  obtain ⟨p, l, e, R, s, m, args, below, meth, c, D, ca, ad, A, cells, slots, Q, ⟨hx, hb, hml, hown, hts, hR, hK, hS0, hI, hA, hN, hX, hE⟩, rfl⟩ := hG
  intro H locs ls hP hS hl
  exact lv_astore_n hx hb hd hi hl.2 hn rfl (fun ls1 hl1 => k H locs ls1 hP hS (hL ▸ gg_lv_s1 (v := .ref x) hl.1 hl1))
theorem gg_astore (hG : gg_Cl X cc nL own rt h E G) {i : Nat} {x : Nat} {L1 : List (Option Value)} (hd : decode cc pc = .ok (.astore i, 2)) (hn : i < nL) (hL : gg_s1 L i (.ref x) = L1) (k : G (pc + 2) L1 st u) : G pc L (.ref x :: st) u := by
  obtain ⟨p, l, e, R, s, m, args, below, meth, c, D, ca, ad, A, cells, slots, Q, ⟨hx, hb, hml, hown, hts, hR, hK, hS0, hI, hA, hN, hX, hE⟩, rfl⟩ := hG
  intro H locs ls hP hS hl
  exact lv_astore hx hb hd hl.2 hn rfl (fun ls1 hl1 => k H locs ls1 hP hS (hL ▸ gg_lv_s1 (v := .ref x) hl.1 hl1))
theorem gg_iinc (hG : gg_Cl X cc nL own rt h E G) {i : Nat} {n : Int} {x v : Int32} {L1 : List (Option Value)} (hd : decode cc pc = .ok (.iinc i n, 3)) (hi : L[i]? = some (some (.int x))) (hv : x + Int32.ofInt n = v) (hn : i < nL) (hL : gg_s1 L i (.int v) = L1) (k : G (pc + 3) L1 st u) : G pc L st u := by
  obtain ⟨p, l, e, R, s, m, args, below, meth, c, D, ca, ad, A, cells, slots, Q, ⟨hx, hb, hml, hown, hts, hR, hK, hS0, hI, hA, hN, hX, hE⟩, rfl⟩ := hG
  intro H locs ls hP hS hl
  have hm : (i, Value.int x) ∈ gg_lp ad 0 L := (gg_lp_mem ad L 0 i (.int x)).mpr ⟨i, .int x, (Nat.zero_add i).symm, hi, rfl⟩
  obtain ⟨k1, hk1⟩ := List.getElem?_of_mem hm
  exact lv_iinc hx hb hd hl.2 hk1 hv hn rfl (fun ls1 hl1 => k H locs ls1 hP hS (hL ▸ gg_lv_s1 (v := .int v) hl.1 hl1))
theorem gg_iadd (hG : gg_Cl X cc nL own rt h E G) {x y : Int32} (hd : decode cc pc = .ok (.iadd, 1))  (k : G (pc + 1) L (.int (x + y) :: st) u) : G pc L (.int y :: .int x :: st) u := by
  obtain ⟨p, l, e, R, s, m, args, below, meth, c, D, ca, ad, A, cells, slots, Q, ⟨hx, hb, hml, hown, hts, hR, hK, hS0, hI, hA, hN, hX, hE⟩, rfl⟩ := hG
  intro H locs ls hP hS hl
  exact lv_iadd hx hb hd  (k H locs ls hP hS hl)
theorem gg_isub (hG : gg_Cl X cc nL own rt h E G) {x y : Int32} (hd : decode cc pc = .ok (.isub, 1))  (k : G (pc + 1) L (.int (x - y) :: st) u) : G pc L (.int y :: .int x :: st) u := by
  obtain ⟨p, l, e, R, s, m, args, below, meth, c, D, ca, ad, A, cells, slots, Q, ⟨hx, hb, hml, hown, hts, hR, hK, hS0, hI, hA, hN, hX, hE⟩, rfl⟩ := hG
  intro H locs ls hP hS hl
  exact lv_isub hx hb hd  (k H locs ls hP hS hl)
theorem gg_imul (hG : gg_Cl X cc nL own rt h E G) {x y : Int32} (hd : decode cc pc = .ok (.imul, 1))  (k : G (pc + 1) L (.int (x * y) :: st) u) : G pc L (.int y :: .int x :: st) u := by
  obtain ⟨p, l, e, R, s, m, args, below, meth, c, D, ca, ad, A, cells, slots, Q, ⟨hx, hb, hml, hown, hts, hR, hK, hS0, hI, hA, hN, hX, hE⟩, rfl⟩ := hG
  intro H locs ls hP hS hl
  exact lv_imul hx hb hd  (k H locs ls hP hS hl)
theorem gg_iand (hG : gg_Cl X cc nL own rt h E G) {x y : Int32} (hd : decode cc pc = .ok (.iand, 1))  (k : G (pc + 1) L (.int (x &&& y) :: st) u) : G pc L (.int y :: .int x :: st) u := by
  obtain ⟨p, l, e, R, s, m, args, below, meth, c, D, ca, ad, A, cells, slots, Q, ⟨hx, hb, hml, hown, hts, hR, hK, hS0, hI, hA, hN, hX, hE⟩, rfl⟩ := hG
  intro H locs ls hP hS hl
  exact lv_iand hx hb hd  (k H locs ls hP hS hl)
theorem gg_ior (hG : gg_Cl X cc nL own rt h E G) {x y : Int32} (hd : decode cc pc = .ok (.ior, 1))  (k : G (pc + 1) L (.int (x ||| y) :: st) u) : G pc L (.int y :: .int x :: st) u := by
  obtain ⟨p, l, e, R, s, m, args, below, meth, c, D, ca, ad, A, cells, slots, Q, ⟨hx, hb, hml, hown, hts, hR, hK, hS0, hI, hA, hN, hX, hE⟩, rfl⟩ := hG
  intro H locs ls hP hS hl
  exact lv_ior hx hb hd  (k H locs ls hP hS hl)
theorem gg_ishl (hG : gg_Cl X cc nL own rt h E G) {x y : Int32} (hd : decode cc pc = .ok (.ishl, 1))  (k : G (pc + 1) L (.int (x <<< (y &&& 31)) :: st) u) : G pc L (.int y :: .int x :: st) u := by
  obtain ⟨p, l, e, R, s, m, args, below, meth, c, D, ca, ad, A, cells, slots, Q, ⟨hx, hb, hml, hown, hts, hR, hK, hS0, hI, hA, hN, hX, hE⟩, rfl⟩ := hG
  intro H locs ls hP hS hl
  exact lv_ishl hx hb hd  (k H locs ls hP hS hl)
theorem gg_ishr (hG : gg_Cl X cc nL own rt h E G) {x y : Int32} (hd : decode cc pc = .ok (.ishr, 1))  (k : G (pc + 1) L (.int (x >>> (y &&& 31)) :: st) u) : G pc L (.int y :: .int x :: st) u := by
  obtain ⟨p, l, e, R, s, m, args, below, meth, c, D, ca, ad, A, cells, slots, Q, ⟨hx, hb, hml, hown, hts, hR, hK, hS0, hI, hA, hN, hX, hE⟩, rfl⟩ := hG
  intro H locs ls hP hS hl
  exact lv_ishr hx hb hd  (k H locs ls hP hS hl)
theorem gg_idiv (hG : gg_Cl X cc nL own rt h E G) {x y : Int32} (hd : decode cc pc = .ok (.idiv, 1)) (hne : ¬ y = 0) (k : G (pc + 1) L (.int (x / y) :: st) u) : G pc L (.int y :: .int x :: st) u := by
  obtain ⟨p, l, e, R, s, m, args, below, meth, c, D, ca, ad, A, cells, slots, Q, ⟨hx, hb, hml, hown, hts, hR, hK, hS0, hI, hA, hN, hX, hE⟩, rfl⟩ := hG
  intro H locs ls hP hS hl
  exact lv_idiv hx hb hd hne (k H locs ls hP hS hl)
theorem gg_irem (hG : gg_Cl X cc nL own rt h E G) {x y : Int32} (hd : decode cc pc = .ok (.irem, 1)) (hne : ¬ y = 0) (k : G (pc + 1) L (.int (x - x / y * y) :: st) u) : G pc L (.int y :: .int x :: st) u := by
  obtain ⟨p, l, e, R, s, m, args, below, meth, c, D, ca, ad, A, cells, slots, Q, ⟨hx, hb, hml, hown, hts, hR, hK, hS0, hI, hA, hN, hX, hE⟩, rfl⟩ := hG
  intro H locs ls hP hS hl
  exact lv_irem hx hb hd hne (k H locs ls hP hS hl)
theorem gg_ineg (hG : gg_Cl X cc nL own rt h E G) {x : Int32} (hd : decode cc pc = .ok (.ineg, 1))  (k : G (pc + 1) L (.int (-x) :: st) u) : G pc L (.int x :: st) u := by
  obtain ⟨p, l, e, R, s, m, args, below, meth, c, D, ca, ad, A, cells, slots, Q, ⟨hx, hb, hml, hown, hts, hR, hK, hS0, hI, hA, hN, hX, hE⟩, rfl⟩ := hG
  intro H locs ls hP hS hl
  exact lv_ineg hx hb hd  (k H locs ls hP hS hl)
theorem gg_iushr (hG : gg_Cl X cc nL own rt h E G) {x y : Int32} (hd : decode cc pc = .ok (.iushr, 1))  (k : G (pc + 1) L (.int (gu_ushr x y) :: st) u) : G pc L (.int y :: .int x :: st) u := by
  obtain ⟨p, l, e, R, s, m, args, below, meth, c, D, ca, ad, A, cells, slots, Q, ⟨hx, hb, hml, hown, hts, hR, hK, hS0, hI, hA, hN, hX, hE⟩, rfl⟩ := hG
  intro H locs ls hP hS hl
  exact lv_iushr hx hb hd rfl (k H locs ls hP hS hl)
theorem gg_ladd (hG : gg_Cl X cc nL own rt h E G) {x y : Int64} (hd : decode cc pc = .ok (.ladd, 1))  (k : G (pc + 1) L (.long (x + y) :: st) u) : G pc L (.long y :: .long x :: st) u := by
  obtain ⟨p, l, e, R, s, m, args, below, meth, c, D, ca, ad, A, cells, slots, Q, ⟨hx, hb, hml, hown, hts, hR, hK, hS0, hI, hA, hN, hX, hE⟩, rfl⟩ := hG
  intro H locs ls hP hS hl
  exact lv_ladd hx hb hd  (k H locs ls hP hS hl)
theorem gg_lsub (hG : gg_Cl X cc nL own rt h E G) {x y : Int64} (hd : decode cc pc = .ok (.lsub, 1))  (k : G (pc + 1) L (.long (x - y) :: st) u) : G pc L (.long y :: .long x :: st) u := by
  obtain ⟨p, l, e, R, s, m, args, below, meth, c, D, ca, ad, A, cells, slots, Q, ⟨hx, hb, hml, hown, hts, hR, hK, hS0, hI, hA, hN, hX, hE⟩, rfl⟩ := hG
  intro H locs ls hP hS hl
  exact lv_lsub hx hb hd  (k H locs ls hP hS hl)
theorem gg_lmul (hG : gg_Cl X cc nL own rt h E G) {x y : Int64} (hd : decode cc pc = .ok (.lmul, 1))  (k : G (pc + 1) L (.long (x * y) :: st) u) : G pc L (.long y :: .long x :: st) u := by
  obtain ⟨p, l, e, R, s, m, args, below, meth, c, D, ca, ad, A, cells, slots, Q, ⟨hx, hb, hml, hown, hts, hR, hK, hS0, hI, hA, hN, hX, hE⟩, rfl⟩ := hG
  intro H locs ls hP hS hl
  exact lv_lmul hx hb hd  (k H locs ls hP hS hl)
theorem gg_lor (hG : gg_Cl X cc nL own rt h E G) {x y : Int64} (hd : decode cc pc = .ok (.lor, 1))  (k : G (pc + 1) L (.long (x ||| y) :: st) u) : G pc L (.long y :: .long x :: st) u := by
  obtain ⟨p, l, e, R, s, m, args, below, meth, c, D, ca, ad, A, cells, slots, Q, ⟨hx, hb, hml, hown, hts, hR, hK, hS0, hI, hA, hN, hX, hE⟩, rfl⟩ := hG
  intro H locs ls hP hS hl
  exact lv_lor hx hb hd  (k H locs ls hP hS hl)
theorem gg_ldiv (hG : gg_Cl X cc nL own rt h E G) {x y : Int64} (hd : decode cc pc = .ok (.ldiv, 1)) (hne : ¬ y = 0) (k : G (pc + 1) L (.long (x / y) :: st) u) : G pc L (.long y :: .long x :: st) u := by
  obtain ⟨p, l, e, R, s, m, args, below, meth, c, D, ca, ad, A, cells, slots, Q, ⟨hx, hb, hml, hown, hts, hR, hK, hS0, hI, hA, hN, hX, hE⟩, rfl⟩ := hG
  intro H locs ls hP hS hl
  exact lv_ldiv hx hb hd hne (k H locs ls hP hS hl)
theorem gg_lrem (hG : gg_Cl X cc nL own rt h E G) {x y : Int64} (hd : decode cc pc = .ok (.lrem, 1)) (hne : ¬ y = 0) (k : G (pc + 1) L (.long (x - x / y * y) :: st) u) : G pc L (.long y :: .long x :: st) u := by
  obtain ⟨p, l, e, R, s, m, args, below, meth, c, D, ca, ad, A, cells, slots, Q, ⟨hx, hb, hml, hown, hts, hR, hK, hS0, hI, hA, hN, hX, hE⟩, rfl⟩ := hG
  intro H locs ls hP hS hl
  exact lv_lrem hx hb hd hne (k H locs ls hP hS hl)
theorem gg_lshl (hG : gg_Cl X cc nL own rt h E G) {x : Int64} {y : Int32} (hd : decode cc pc = .ok (.lshl, 1))  (k : G (pc + 1) L (.long (gu_lshl x y) :: st) u) : G pc L (.int y :: .long x :: st) u := by
  obtain ⟨p, l, e, R, s, m, args, below, meth, c, D, ca, ad, A, cells, slots, Q, ⟨hx, hb, hml, hown, hts, hR, hK, hS0, hI, hA, hN, hX, hE⟩, rfl⟩ := hG
  intro H locs ls hP hS hl
  exact lv_lshl hx hb hd rfl (k H locs ls hP hS hl)
theorem gg_lushr (hG : gg_Cl X cc nL own rt h E G) {x : Int64} {y : Int32} (hd : decode cc pc = .ok (.lushr, 1))  (k : G (pc + 1) L (.long (gu_lushr x y) :: st) u) : G pc L (.int y :: .long x :: st) u := by
  obtain ⟨p, l, e, R, s, m, args, below, meth, c, D, ca, ad, A, cells, slots, Q, ⟨hx, hb, hml, hown, hts, hR, hK, hS0, hI, hA, hN, hX, hE⟩, rfl⟩ := hG
  intro H locs ls hP hS hl
  exact lv_lushr hx hb hd rfl (k H locs ls hP hS hl)
theorem gg_lcmp (hG : gg_Cl X cc nL own rt h E G) {x y : Int64} (hd : decode cc pc = .ok (.lcmp, 1))  (k : G (pc + 1) L (.int (lg_cmp x y) :: st) u) : G pc L (.long y :: .long x :: st) u := by
  obtain ⟨p, l, e, R, s, m, args, below, meth, c, D, ca, ad, A, cells, slots, Q, ⟨hx, hb, hml, hown, hts, hR, hK, hS0, hI, hA, hN, hX, hE⟩, rfl⟩ := hG
  intro H locs ls hP hS hl
  exact W.lcmp hx hb hd  (k H locs ls hP hS hl)
theorem gg_i2l (hG : gg_Cl X cc nL own rt h E G) {x : Int32} (hd : decode cc pc = .ok (.i2l, 1))  (k : G (pc + 1) L (.long x.toInt64 :: st) u) : G pc L (.int x :: st) u := by
  obtain ⟨p, l, e, R, s, m, args, below, meth, c, D, ca, ad, A, cells, slots, Q, ⟨hx, hb, hml, hown, hts, hR, hK, hS0, hI, hA, hN, hX, hE⟩, rfl⟩ := hG
  intro H locs ls hP hS hl
  exact lv_i2l hx hb hd rfl (k H locs ls hP hS hl)
theorem gg_l2i (hG : gg_Cl X cc nL own rt h E G) {x : Int64} (hd : decode cc pc = .ok (.l2i, 1))  (k : G (pc + 1) L (.int x.toInt32 :: st) u) : G pc L (.long x :: st) u := by
  obtain ⟨p, l, e, R, s, m, args, below, meth, c, D, ca, ad, A, cells, slots, Q, ⟨hx, hb, hml, hown, hts, hR, hK, hS0, hI, hA, hN, hX, hE⟩, rfl⟩ := hG
  intro H locs ls hP hS hl
  exact lv_l2i hx hb hd rfl (k H locs ls hP hS hl)
theorem gg_i2b (hG : gg_Cl X cc nL own rt h E G) {x : Int32} (hd : decode cc pc = .ok (.i2b, 1))  (k : G (pc + 1) L (.int x.toInt8.toInt32 :: st) u) : G pc L (.int x :: st) u := by
  obtain ⟨p, l, e, R, s, m, args, below, meth, c, D, ca, ad, A, cells, slots, Q, ⟨hx, hb, hml, hown, hts, hR, hK, hS0, hI, hA, hN, hX, hE⟩, rfl⟩ := hG
  intro H locs ls hP hS hl
  exact lv_i2b hx hb hd rfl (k H locs ls hP hS hl)
theorem gg_i2s (hG : gg_Cl X cc nL own rt h E G) {x : Int32} (hd : decode cc pc = .ok (.i2s, 1))  (k : G (pc + 1) L (.int x.toInt16.toInt32 :: st) u) : G pc L (.int x :: st) u := by
  obtain ⟨p, l, e, R, s, m, args, below, meth, c, D, ca, ad, A, cells, slots, Q, ⟨hx, hb, hml, hown, hts, hR, hK, hS0, hI, hA, hN, hX, hE⟩, rfl⟩ := hG
  intro H locs ls hP hS hl
  exact lv_i2s hx hb hd rfl (k H locs ls hP hS hl)
theorem gg_dup (hG : gg_Cl X cc nL own rt h E G) {v : Value} (hd : decode cc pc = .ok (.dup, 1)) (hv : v.category = 1) (k : G (pc + 1) L (v :: v :: st) u) : G pc L (v :: st) u := by
  obtain ⟨p, l, e, R, s, m, args, below, meth, c, D, ca, ad, A, cells, slots, Q, ⟨hx, hb, hml, hown, hts, hR, hK, hS0, hI, hA, hN, hX, hE⟩, rfl⟩ := hG
  intro H locs ls hP hS hl
  exact lv_dup hx hb hd ((gg_cat ad v).trans hv) (k H locs ls hP hS hl)
theorem gg_dup2 (hG : gg_Cl X cc nL own rt h E G) {v w : Value} (hd : decode cc pc = .ok (.dup2, 1)) (hv : v.category = 1) (hw : w.category = 1) (k : G (pc + 1) L (v :: w :: v :: w :: st) u) : G pc L (v :: w :: st) u := by
  obtain ⟨p, l, e, R, s, m, args, below, meth, c, D, ca, ad, A, cells, slots, Q, ⟨hx, hb, hml, hown, hts, hR, hK, hS0, hI, hA, hN, hX, hE⟩, rfl⟩ := hG
  intro H locs ls hP hS hl
  exact lv_dup2_11 hx hb hd ((gg_cat ad v).trans hv) ((gg_cat ad w).trans hw) (k H locs ls hP hS hl)
theorem gg_if_eq (hG : gg_Cl X cc nL own rt h E G) {x : Int32} {off : Int} {tgt : Nat} (hd : decode cc pc = .ok (.ifCond .eq off, 3)) (ht : (pc : Int) + off = (tgt : Int)) (kt : x = 0 → G tgt L st u) (kf : ¬ x = 0 → G (pc + 3) L st u) : G pc L (.int x :: st) u := by
  obtain ⟨p, l, e, R, s, m, args, below, meth, c, D, ca, ad, A, cells, slots, Q, ⟨hx, hb, hml, hown, hts, hR, hK, hS0, hI, hA, hN, hX, hE⟩, rfl⟩ := hG
  intro H locs ls hP hS hl
  exact lv_if_eq hx hb hd ht (fun q => kt q H locs ls hP hS hl) (fun q => kf q H locs ls hP hS hl)
theorem gg_ic_eq (hG : gg_Cl X cc nL own rt h E G) {x y : Int32} {off : Int} {tgt : Nat} (hd : decode cc pc = .ok (.if_icmp .eq off, 3)) (ht : (pc : Int) + off = (tgt : Int)) (kt : x = y → G tgt L st u) (kf : ¬ x = y → G (pc + 3) L st u) : G pc L (.int y :: .int x :: st) u := by
  obtain ⟨p, l, e, R, s, m, args, below, meth, c, D, ca, ad, A, cells, slots, Q, ⟨hx, hb, hml, hown, hts, hR, hK, hS0, hI, hA, hN, hX, hE⟩, rfl⟩ := hG
  intro H locs ls hP hS hl
  exact lv_icmp_eq hx hb hd ht (fun q => kt q H locs ls hP hS hl) (fun q => kf q H locs ls hP hS hl)
theorem gg_if_ne (hG : gg_Cl X cc nL own rt h E G) {x : Int32} {off : Int} {tgt : Nat} (hd : decode cc pc = .ok (.ifCond .ne off, 3)) (ht : (pc : Int) + off = (tgt : Int)) (kt : ¬ x = 0 → G tgt L st u) (kf : x = 0 → G (pc + 3) L st u) : G pc L (.int x :: st) u := by
  obtain ⟨p, l, e, R, s, m, args, below, meth, c, D, ca, ad, A, cells, slots, Q, ⟨hx, hb, hml, hown, hts, hR, hK, hS0, hI, hA, hN, hX, hE⟩, rfl⟩ := hG
  intro H locs ls hP hS hl
  exact lv_if_ne hx hb hd ht (fun q => kt q H locs ls hP hS hl) (fun q => kf q H locs ls hP hS hl)
theorem gg_ic_ne (hG : gg_Cl X cc nL own rt h E G) {x y : Int32} {off : Int} {tgt : Nat} (hd : decode cc pc = .ok (.if_icmp .ne off, 3)) (ht : (pc : Int) + off = (tgt : Int)) (kt : ¬ x = y → G tgt L st u) (kf : x = y → G (pc + 3) L st u) : G pc L (.int y :: .int x :: st) u := by
  obtain ⟨p, l, e, R, s, m, args, below, meth, c, D, ca, ad, A, cells, slots, Q, ⟨hx, hb, hml, hown, hts, hR, hK, hS0, hI, hA, hN, hX, hE⟩, rfl⟩ := hG
  intro H locs ls hP hS hl
  exact lv_icmp_ne hx hb hd ht (fun q => kt q H locs ls hP hS hl) (fun q => kf q H locs ls hP hS hl)
theorem gg_if_lt (hG : gg_Cl X cc nL own rt h E G) {x : Int32} {off : Int} {tgt : Nat} (hd : decode cc pc = .ok (.ifCond .lt off, 3)) (ht : (pc : Int) + off = (tgt : Int)) (kt : x < 0 → G tgt L st u) (kf : ¬ x < 0 → G (pc + 3) L st u) : G pc L (.int x :: st) u := by
  obtain ⟨p, l, e, R, s, m, args, below, meth, c, D, ca, ad, A, cells, slots, Q, ⟨hx, hb, hml, hown, hts, hR, hK, hS0, hI, hA, hN, hX, hE⟩, rfl⟩ := hG
  intro H locs ls hP hS hl
  exact lv_if_lt hx hb hd ht (fun q => kt q H locs ls hP hS hl) (fun q => kf q H locs ls hP hS hl)
theorem gg_ic_lt (hG : gg_Cl X cc nL own rt h E G) {x y : Int32} {off : Int} {tgt : Nat} (hd : decode cc pc = .ok (.if_icmp .lt off, 3)) (ht : (pc : Int) + off = (tgt : Int)) (kt : x < y → G tgt L st u) (kf : ¬ x < y → G (pc + 3) L st u) : G pc L (.int y :: .int x :: st) u := by
  obtain ⟨p, l, e, R, s, m, args, below, meth, c, D, ca, ad, A, cells, slots, Q, ⟨hx, hb, hml, hown, hts, hR, hK, hS0, hI, hA, hN, hX, hE⟩, rfl⟩ := hG
  intro H locs ls hP hS hl
  exact lv_icmp_lt hx hb hd ht (fun q => kt q H locs ls hP hS hl) (fun q => kf q H locs ls hP hS hl)
theorem gg_if_ge (hG : gg_Cl X cc nL own rt h E G) {x : Int32} {off : Int} {tgt : Nat} (hd : decode cc pc = .ok (.ifCond .ge off, 3)) (ht : (pc : Int) + off = (tgt : Int)) (kt : 0 ≤ x → G tgt L st u) (kf : ¬ 0 ≤ x → G (pc + 3) L st u) : G pc L (.int x :: st) u := by
  obtain ⟨p, l, e, R, s, m, args, below, meth, c, D, ca, ad, A, cells, slots, Q, ⟨hx, hb, hml, hown, hts, hR, hK, hS0, hI, hA, hN, hX, hE⟩, rfl⟩ := hG
  intro H locs ls hP hS hl
  exact lv_if_ge hx hb hd ht (fun q => kt q H locs ls hP hS hl) (fun q => kf q H locs ls hP hS hl)
theorem gg_ic_ge (hG : gg_Cl X cc nL own rt h E G) {x y : Int32} {off : Int} {tgt : Nat} (hd : decode cc pc = .ok (.if_icmp .ge off, 3)) (ht : (pc : Int) + off = (tgt : Int)) (kt : y ≤ x → G tgt L st u) (kf : ¬ y ≤ x → G (pc + 3) L st u) : G pc L (.int y :: .int x :: st) u := by
  obtain ⟨p, l, e, R, s, m, args, below, meth, c, D, ca, ad, A, cells, slots, Q, ⟨hx, hb, hml, hown, hts, hR, hK, hS0, hI, hA, hN, hX, hE⟩, rfl⟩ := hG
  intro H locs ls hP hS hl
  exact lv_icmp_ge hx hb hd ht (fun q => kt q H locs ls hP hS hl) (fun q => kf q H locs ls hP hS hl)
theorem gg_if_gt (hG : gg_Cl X cc nL own rt h E G) {x : Int32} {off : Int} {tgt : Nat} (hd : decode cc pc = .ok (.ifCond .gt off, 3)) (ht : (pc : Int) + off = (tgt : Int)) (kt : 0 < x → G tgt L st u) (kf : ¬ 0 < x → G (pc + 3) L st u) : G pc L (.int x :: st) u := by
  obtain ⟨p, l, e, R, s, m, args, below, meth, c, D, ca, ad, A, cells, slots, Q, ⟨hx, hb, hml, hown, hts, hR, hK, hS0, hI, hA, hN, hX, hE⟩, rfl⟩ := hG
  intro H locs ls hP hS hl
  exact lv_if_gt hx hb hd ht (fun q => kt q H locs ls hP hS hl) (fun q => kf q H locs ls hP hS hl)
theorem gg_ic_gt (hG : gg_Cl X cc nL own rt h E G) {x y : Int32} {off : Int} {tgt : Nat} (hd : decode cc pc = .ok (.if_icmp .gt off, 3)) (ht : (pc : Int) + off = (tgt : Int)) (kt : y < x → G tgt L st u) (kf : ¬ y < x → G (pc + 3) L st u) : G pc L (.int y :: .int x :: st) u := by
  obtain ⟨p, l, e, R, s, m, args, below, meth, c, D, ca, ad, A, cells, slots, Q, ⟨hx, hb, hml, hown, hts, hR, hK, hS0, hI, hA, hN, hX, hE⟩, rfl⟩ := hG
  intro H locs ls hP hS hl
  exact lv_icmp_gt hx hb hd ht (fun q => kt q H locs ls hP hS hl) (fun q => kf q H locs ls hP hS hl)
theorem gg_if_le (hG : gg_Cl X cc nL own rt h E G) {x : Int32} {off : Int} {tgt : Nat} (hd : decode cc pc = .ok (.ifCond .le off, 3)) (ht : (pc : Int) + off = (tgt : Int)) (kt : x ≤ 0 → G tgt L st u) (kf : ¬ x ≤ 0 → G (pc + 3) L st u) : G pc L (.int x :: st) u := by
  obtain ⟨p, l, e, R, s, m, args, below, meth, c, D, ca, ad, A, cells, slots, Q, ⟨hx, hb, hml, hown, hts, hR, hK, hS0, hI, hA, hN, hX, hE⟩, rfl⟩ := hG
  intro H locs ls hP hS hl
  exact lv_if_le hx hb hd ht (fun q => kt q H locs ls hP hS hl) (fun q => kf q H locs ls hP hS hl)
theorem gg_ic_le (hG : gg_Cl X cc nL own rt h E G) {x y : Int32} {off : Int} {tgt : Nat} (hd : decode cc pc = .ok (.if_icmp .le off, 3)) (ht : (pc : Int) + off = (tgt : Int)) (kt : x ≤ y → G tgt L st u) (kf : ¬ x ≤ y → G (pc + 3) L st u) : G pc L (.int y :: .int x :: st) u := by
  obtain ⟨p, l, e, R, s, m, args, below, meth, c, D, ca, ad, A, cells, slots, Q, ⟨hx, hb, hml, hown, hts, hR, hK, hS0, hI, hA, hN, hX, hE⟩, rfl⟩ := hG
  intro H locs ls hP hS hl
  exact lv_icmp_le hx hb hd ht (fun q => kt q H locs ls hP hS hl) (fun q => kf q H locs ls hP hS hl)
theorem gg_goto (hG : gg_Cl X cc nL own rt h E G) {off : Int} {tgt : Nat} (hd : decode cc pc = .ok (.goto off, 3)) (ht : (pc : Int) + off = (tgt : Int)) (k : G tgt L st u) : G pc L st u := by
  obtain ⟨p, l, e, R, s, m, args, below, meth, c, D, ca, ad, A, cells, slots, Q, ⟨hx, hb, hml, hown, hts, hR, hK, hS0, hI, hA, hN, hX, hE⟩, rfl⟩ := hG
  intro H locs ls hP hS hl
  exact lv_goto hx hb hd ht (k H locs ls hP hS hl)
theorem gg_tabOut (hG : gg_Cl X cc nL own rt h E G) {dflt lo hi : Int} {offs : Array Int} {len : Nat} {x : Int32} {tgt : Nat} (hd : decode cc pc = .ok (.tableswitch dflt lo hi offs, len)) (hq : x.toInt < lo ∨ hi < x.toInt) (ht : (pc : Int) + dflt = (tgt : Int)) (k : G tgt L st u) : G pc L (.int x :: st) u := by
  obtain ⟨p, l, e, R, s, m, args, below, meth, c, D, ca, ad, A, cells, slots, Q, ⟨hx, hb, hml, hown, hts, hR, hK, hS0, hI, hA, hN, hX, hE⟩, rfl⟩ := hG
  intro H locs ls hP hS hl
  exact lv_tableOut hx hb hd hq ht (k H locs ls hP hS hl)
theorem gg_tabIn (hG : gg_Cl X cc nL own rt h E G) {dflt lo hi : Int} {offs : Array Int} {len : Nat} {x : Int32} {off : Int} {tgt : Nat} (hd : decode cc pc = .ok (.tableswitch dflt lo hi offs, len)) (h1 : ¬ x.toInt < lo) (h2 : ¬ hi < x.toInt) (ho : offs[(x.toInt - lo).toNat]? = some off) (ht : (pc : Int) + off = (tgt : Int)) (k : G tgt L st u) : G pc L (.int x :: st) u := by
  obtain ⟨p, l, e, R, s, m, args, below, meth, c, D, ca, ad, A, cells, slots, Q, ⟨hx, hb, hml, hown, hts, hR, hK, hS0, hI, hA, hN, hX, hE⟩, rfl⟩ := hG
  intro H locs ls hP hS hl
  exact lv_tableIn hx hb hd h1 h2 ho ht (k H locs ls hP hS hl)
theorem gg_ni {x : Int32} (k : ∀ y : Int32, y = x → G pc L (.int y :: st) u) : G pc L (.int x :: st) u := k x rfl
theorem gg_nl {x : Int64} (k : ∀ y : Int64, y = x → G pc L (.long y :: st) u) : G pc L (.long x :: st) u := k x rfl
theorem gg_nu (k : ∀ v : gg_M, v = u → G pc L st v) : G pc L st u := k u rfl
theorem gg_get (hG : gg_Cl X cc nL own rt h E G) {t c0 j idx : Nat} {v : Value} (hd : decode cc pc = .ok (.getfield idx, 3)) (ht : t < 65) (hk : gg_kd t = c0) (hf : gg_FL own idx c0 j) (hv : gg_fv u t j = v) (k : G (pc + 3) L (v :: st) u) : G pc L (.ref t :: st) u := by
  obtain ⟨p, l, e, R, s, m, args, below, meth, c, D, ca, ad, A, cells, slots, Q, ⟨hx, hb, hml, hown, hts, hR, hK, hS0, hI, hA, hN, hX, hE⟩, rfl⟩ := hG
  intro H locs ls hP hS hl
  obtain ⟨q, hq, hj, hw⟩ := hf
  obtain ⟨hc0, hn, hin, hty, hnm⟩ := gg_clsF hq
  subst hk
  exact va_get hx hb (C := q.1) (T := q.2.1) (N := q.2.2) hts hin hown hK.v0 hP t (by rw [gg_ws_at ht, gg_ce_o rfl hc0]) hq j hj (hts _ hw) (fun _ z => z) (by rw [gg_fs_at (hn ▸ hj), hv]) hd (k H locs ls hP hS hl)
theorem gg_putI (hG : gg_Cl X cc nL own rt h E G) {t c0 j idx : Nat} {x : Int32} (hd : decode cc pc = .ok (.putfield idx, 3)) (ht : t < 65) (hk : gg_kd t = c0) (hf : gg_FP own idx c0 j) (hfk : gg_fk c0 j = 0) (hn1 : narrow (gg_ft c0 j) (.int x) = .int x) (hft : fits (gg_ft c0 j) (.int x) = true) (k : G (pc + 3) L st (gg_wI u t j x)) : G pc L (.int x :: .ref t :: st) u := by
  obtain ⟨p, l, e, R, s, m, args, below, meth, c, D, ca, ad, A, cells, slots, Q, ⟨hx, hb, hml, hown, hts, hR, hK, hS0, hI, hA, hN, hX, hE⟩, rfl⟩ := hG
  intro H locs ls hP hS hl
  obtain ⟨q, hq, hj, hw, hfin⟩ := hf
  obtain ⟨hc0, hn, hin, hty, hnm⟩ := gg_clsF hq
  subst hk
  have hj2 : j < gg_nf (gg_kd t) := hn ▸ hj
  refine va_put hx hb (C := q.1) (T := q.2.1) (N := q.2.2) hts hin (gg_ft (gg_kd t)) hty hnm hown hK.v0 hP (gg_va_D hI hA) hS t (by rw [gg_ws_at ht, gg_ce_o rfl hc0]) hq j hj (hts _ hw) (fun _ z => z) hfin (hty j hj) hn1 hft (by rw [gg_fs_len]; exact hj2) hd (fun H1 locs1 hP1 _ hS1 => ?_)
  rw [gg_ws_set ht (u' := gg_wI u t j x) (by rw [gg_ce_o rfl hc0, ← gg_fs_set (v := .int x) hj2 (by rw [gg_fv_wI hfk]; rfl) (fun a ha => gg_fv_wIn ha)]; rfl) (fun a ha => gg_ce_wA a ha)] at hP1
  exact k H1 locs1 ls hP1 hS1 hl
theorem gg_putL (hG : gg_Cl X cc nL own rt h E G) {t c0 j idx : Nat} {x : Int64} (hd : decode cc pc = .ok (.putfield idx, 3)) (ht : t < 65) (hk : gg_kd t = c0) (hf : gg_FP own idx c0 j) (hfk : gg_fk c0 j = 1) (hn1 : narrow (gg_ft c0 j) (.long x) = .long x) (hft : fits (gg_ft c0 j) (.long x) = true) (k : G (pc + 3) L st (gg_wL u t j x)) : G pc L (.long x :: .ref t :: st) u := by
  obtain ⟨p, l, e, R, s, m, args, below, meth, c, D, ca, ad, A, cells, slots, Q, ⟨hx, hb, hml, hown, hts, hR, hK, hS0, hI, hA, hN, hX, hE⟩, rfl⟩ := hG
  intro H locs ls hP hS hl
  obtain ⟨q, hq, hj, hw, hfin⟩ := hf
  obtain ⟨hc0, hn, hin, hty, hnm⟩ := gg_clsF hq
  subst hk
  have hj2 : j < gg_nf (gg_kd t) := hn ▸ hj
  refine va_put hx hb (C := q.1) (T := q.2.1) (N := q.2.2) hts hin (gg_ft (gg_kd t)) hty hnm hown hK.v0 hP (gg_va_D hI hA) hS t (by rw [gg_ws_at ht, gg_ce_o rfl hc0]) hq j hj (hts _ hw) (fun _ z => z) hfin (hty j hj) hn1 hft (by rw [gg_fs_len]; exact hj2) hd (fun H1 locs1 hP1 _ hS1 => ?_)
  rw [gg_ws_set ht (u' := gg_wL u t j x) (by rw [gg_ce_o rfl hc0, ← gg_fs_set (v := .long x) hj2 (by rw [gg_fv_wL hfk]; rfl) (fun a ha => gg_fv_wLn ha)]; rfl) (fun a ha => gg_ce_wB a ha)] at hP1
  exact k H1 locs1 ls hP1 hS1 hl
theorem gg_iald (hG : gg_Cl X cc nL own rt h E G) {t j : Nat} {i : Int32} (hd : decode cc pc = .ok (.iaload, 1)) (ht : t < 65) (hk : gg_kd t = 20) (hi : vp_in i (gg_al t)) (hj : i.toNatClampNeg = j) (k : G (pc + 1) L (.int (u.1 t j) :: st) u) : G pc L (.int i :: .ref t :: st) u := by
  obtain ⟨p, l, e, R, s, m, args, below, meth, c, D, ca, ad, A, cells, slots, Q, ⟨hx, hb, hml, hown, hts, hR, hK, hS0, hI, hA, hN, hX, hE⟩, rfl⟩ := hG
  intro H locs ls hP hS hl
  subst hj
  have hKt := hK.va ht (by omega)
  rw [hk] at hKt
  exact va_iald hx hb hKt hP t 0 (by rw [gg_ws_at ht, gg_ce_i (Or.inl hk)]) rfl hi hd (k H locs ls hP hS hl)
theorem gg_zald (hG : gg_Cl X cc nL own rt h E G) {t j : Nat} {i : Int32} (hd : decode cc pc = .ok (.baload, 1)) (ht : t < 65) (hk : gg_kd t = 22) (hi : vp_in i (gg_al t)) (hj : i.toNatClampNeg = j) (k : G (pc + 1) L (.int (u.1 t j) :: st) u) : G pc L (.int i :: .ref t :: st) u := by
  obtain ⟨p, l, e, R, s, m, args, below, meth, c, D, ca, ad, A, cells, slots, Q, ⟨hx, hb, hml, hown, hts, hR, hK, hS0, hI, hA, hN, hX, hE⟩, rfl⟩ := hG
  intro H locs ls hP hS hl
  subst hj
  have hKt := hK.va ht (by omega)
  rw [hk] at hKt
  exact va_zald hx hb hKt hP t 0 (by rw [gg_ws_at ht, gg_ce_i (Or.inr hk)]) rfl hi hd (k H locs ls hP hS hl)
theorem gg_lald (hG : gg_Cl X cc nL own rt h E G) {t j : Nat} {i : Int32} (hd : decode cc pc = .ok (.laload, 1)) (ht : t < 65) (hk : gg_kd t = 21) (hi : vp_in i (gg_al t)) (hj : i.toNatClampNeg = j) (k : G (pc + 1) L (.long (u.2 t j) :: st) u) : G pc L (.int i :: .ref t :: st) u := by
  obtain ⟨p, l, e, R, s, m, args, below, meth, c, D, ca, ad, A, cells, slots, Q, ⟨hx, hb, hml, hown, hts, hR, hK, hS0, hI, hA, hN, hX, hE⟩, rfl⟩ := hG
  intro H locs ls hP hS hl
  subst hj
  have hKt := hK.va ht (by omega)
  rw [hk] at hKt
  exact va_lald hx hb hKt hP t 0 (by rw [gg_ws_at ht, gg_ce_l hk]) rfl hi hd (k H locs ls hP hS hl)
theorem gg_iast (hG : gg_Cl X cc nL own rt h E G) {t j : Nat} {i x : Int32} (hd : decode cc pc = .ok (.iastore, 1)) (ht : t < 65) (hk : gg_kd t = 20) (hi : vp_in i (gg_al t)) (hj : i.toNatClampNeg = j) (k : G (pc + 1) L st (gg_wI u t j x)) : G pc L (.int x :: .int i :: .ref t :: st) u := by
  obtain ⟨p, l, e, R, s, m, args, below, meth, c, D, ca, ad, A, cells, slots, Q, ⟨hx, hb, hml, hown, hts, hR, hK, hS0, hI, hA, hN, hX, hE⟩, rfl⟩ := hG
  intro H locs ls hP hS hl
  subst hj
  have hKt := hK.va ht (by omega)
  rw [hk] at hKt
  refine va_iast hx hb hKt hP (gg_va_D hI hA) hS t 0 (by rw [gg_ws_at ht, gg_ce_i (Or.inl hk)]) rfl hi hd (fun H1 locs1 hP1 _ hS1 => ?_)
  rw [gg_ws_set ht (u' := gg_wI u t i.toNatClampNeg x) (by rw [gg_ce_i (Or.inl hk)]; exact congrArg (fun f => Sum.inl (ca t, gg_al t, Sum.inl f)) (gg_wA_1 u t _)) (fun a ha => gg_ce_wA a ha)] at hP1
  exact k H1 locs1 ls hP1 hS1 hl
theorem gg_zast (hG : gg_Cl X cc nL own rt h E G) {t j : Nat} {i x : Int32} (hd : decode cc pc = .ok (.bastore, 1)) (ht : t < 65) (hk : gg_kd t = 22) (hi : vp_in i (gg_al t)) (hj : i.toNatClampNeg = j) (k : G (pc + 1) L st (gg_wI u t j (vp_nar .boolean x))) : G pc L (.int x :: .int i :: .ref t :: st) u := by
  obtain ⟨p, l, e, R, s, m, args, below, meth, c, D, ca, ad, A, cells, slots, Q, ⟨hx, hb, hml, hown, hts, hR, hK, hS0, hI, hA, hN, hX, hE⟩, rfl⟩ := hG
  intro H locs ls hP hS hl
  subst hj
  have hKt := hK.va ht (by omega)
  rw [hk] at hKt
  refine va_zast hx hb hKt hP (gg_va_D hI hA) hS t 0 (by rw [gg_ws_at ht, gg_ce_i (Or.inr hk)]) rfl hi hd (fun H1 locs1 hP1 _ hS1 => ?_)
  rw [gg_ws_set ht (u' := gg_wI u t i.toNatClampNeg (vp_nar .boolean x)) (by rw [gg_ce_i (Or.inr hk)]; exact congrArg (fun f => Sum.inl (ca t, gg_al t, Sum.inl f)) (gg_wA_1 u t _)) (fun a ha => gg_ce_wA a ha)] at hP1
  exact k H1 locs1 ls hP1 hS1 hl
theorem gg_last (hG : gg_Cl X cc nL own rt h E G) {t j : Nat} {i : Int32} {x : Int64} (hd : decode cc pc = .ok (.lastore, 1)) (ht : t < 65) (hk : gg_kd t = 21) (hi : vp_in i (gg_al t)) (hj : i.toNatClampNeg = j) (k : G (pc + 1) L st (gg_wL u t j x)) : G pc L (.long x :: .int i :: .ref t :: st) u := by
  obtain ⟨p, l, e, R, s, m, args, below, meth, c, D, ca, ad, A, cells, slots, Q, ⟨hx, hb, hml, hown, hts, hR, hK, hS0, hI, hA, hN, hX, hE⟩, rfl⟩ := hG
  intro H locs ls hP hS hl
  subst hj
  have hKt := hK.va ht (by omega)
  rw [hk] at hKt
  refine va_last hx hb hKt hP (gg_va_D hI hA) hS t 0 (by rw [gg_ws_at ht, gg_ce_l hk]) rfl hi hd (fun H1 locs1 hP1 _ hS1 => ?_)
  rw [gg_ws_set ht (u' := gg_wL u t i.toNatClampNeg x) (by rw [gg_ce_l hk]; exact congrArg (fun f => Sum.inl (ca t, gg_al t, Sum.inr (Sum.inl f))) (gg_wB_1 u t _)) (fun a ha => gg_ce_wB a ha)] at hP1
  exact k H1 locs1 ls hP1 hS1 hl
theorem gg_aald (hG : gg_Cl X cc nL own rt h E G) {t r j : Nat} {i : Int32} (hd : decode cc pc = .ok (.aaload, 1)) (ht : t < 65) (hk : gg_kd t = 23 ∨ gg_kd t = 24) (hi : vp_in i (gg_al t)) (hj : i.toNatClampNeg = j) (hr : gg_rf t j = r) (k : G (pc + 1) L (.ref r :: st) u) : G pc L (.int i :: .ref t :: st) u := by
  obtain ⟨p, l, e, R, s, m, args, below, meth, c, D, ca, ad, A, cells, slots, Q, ⟨hx, hb, hml, hown, hts, hR, hK, hS0, hI, hA, hN, hX, hE⟩, rfl⟩ := hG
  intro H locs ls hP hS hl
  subst hj
  have hKt := (hK.2 t ht (by omega)).1
  have hlt : i.toNatClampNeg < gg_al t := Nat.not_le.mp fun q => hi (Or.inr q)
  have hc := hP t _ (gg_ws_at ht)
  rw [gg_ce_r hk] at hc
  subst hr
  exact W.aald (v := .ref (ad (gg_rf t i.toNatClampNeg))) (ty := gg_ty (gg_kd t)) hx hb hc (hKt (gg_al t) (fun j => va_rf (some (ad (gg_rf t j))))) (by rcases hk with q | q <;> rw [q] <;> rfl) (fun q => by cases q) (by show ¬ (i < 0 ∨ (arrV _ _ _).slots.size ≤ _); rw [arrV_size]; exact hi) (by show (arrV _ _ _).slots[_]? = _; rw [arrV_read _ _ hlt]; rfl) rfl rfl hd (k H locs ls hP hS hl)
theorem gg_alen (hG : gg_Cl X cc nL own rt h E G) {t : Nat} {v : Int32} (hd : decode cc pc = .ok (.arraylength, 1)) (ht : t < 65) (hk : gg_kd t = 20) (hv : Int32.ofNat (gg_al t) = v) (k : G (pc + 1) L (.int v :: st) u) : G pc L (.ref t :: st) u := by
  obtain ⟨p, l, e, R, s, m, args, below, meth, c, D, ca, ad, A, cells, slots, Q, ⟨hx, hb, hml, hown, hts, hR, hK, hS0, hI, hA, hN, hX, hE⟩, rfl⟩ := hG
  intro H locs ls hP hS hl
  have hKt := hK.va ht (by omega)
  rw [hk] at hKt
  exact va_alen hx hb hKt hP t 0 (by rw [gg_ws_at ht, gg_ce_i (Or.inl hk)]) rfl hv hd (k H locs ls hP hS hl)
theorem gg_gets (hG : gg_Cl X cc nL own rt h E G) {k0 idx : Nat} (hd : decode cc pc = .ok (.getstatic idx, 3)) (hk : k0 < 5) (hw : Cond.fieldLink own idx (gg_sn k0).1 (gg_sn k0).2.1 (gg_sn k0).2.2 ∈ gg_tG) (k : G (pc + 3) L (.ref (100 + k0) :: st) u) : G pc L st u := by
  obtain ⟨p, l, e, R, s, m, args, below, meth, c, D, ca, ad, A, cells, slots, Q, ⟨hx, hb, hml, hown, hts, hR, hK, hS0, hI, hA, hN, hX, hE⟩, rfl⟩ := hG
  intro H locs ls hP hS hl
  exact va_gets hx hb (hS0 k0 hk).1 hS hown (hts _ hw) (fun _ z => z) hd (k H locs ls hP hS hl)
theorem gg_ti (hG : gg_Cl X cc nL own rt h E G) {k0 j : Nat} {i : Int32} (hd : decode cc pc = .ok (.iaload, 1)) (hk : k0 < 5) (hty : gg_st k0 = .int) (hi : vp_in i (gg_sl k0)) (hj : i.toNatClampNeg = j) (k : G (pc + 1) L (.int (gg_sv k0 j) :: st) u) : G pc L (.int i :: .ref (100 + k0) :: st) u := by
  obtain ⟨p, l, e, R, s, m, args, below, meth, c, D, ca, ad, A, cells, slots, Q, ⟨hx, hb, hml, hown, hts, hR, hK, hS0, hI, hA, hN, hX, hE⟩, rfl⟩ := hG
  intro H locs ls hP hS hl
  subst hj
  have hT := (hS0 k0 hk).2
  rw [hty] at hT
  exact va_ti hx hb hT hS hi rfl hd (k H locs ls hP hS hl)
theorem gg_tc (hG : gg_Cl X cc nL own rt h E G) {k0 j : Nat} {i : Int32} (hd : decode cc pc = .ok (.caload, 1)) (hk : k0 < 5) (hty : gg_st k0 = .char) (hi : vp_in i (gg_sl k0)) (hj : i.toNatClampNeg = j) (k : G (pc + 1) L (.int (gg_sv k0 j) :: st) u) : G pc L (.int i :: .ref (100 + k0) :: st) u := by
  obtain ⟨p, l, e, R, s, m, args, below, meth, c, D, ca, ad, A, cells, slots, Q, ⟨hx, hb, hml, hown, hts, hR, hK, hS0, hI, hA, hN, hX, hE⟩, rfl⟩ := hG
  intro H locs ls hP hS hl
  subst hj
  have hT := (hS0 k0 hk).2
  rw [hty] at hT
  exact va_tc hx hb hT hS hi rfl hd (k H locs ls hP hS hl)
theorem gg_tlen (hG : gg_Cl X cc nL own rt h E G) {k0 : Nat} {v : Int32} (hd : decode cc pc = .ok (.arraylength, 1)) (hk : k0 < 5) (hv : Int32.ofNat (gg_sl k0) = v) (k : G (pc + 1) L (.int v :: st) u) : G pc L (.ref (100 + k0) :: st) u := by
  obtain ⟨p, l, e, R, s, m, args, below, meth, c, D, ca, ad, A, cells, slots, Q, ⟨hx, hb, hml, hown, hts, hR, hK, hS0, hI, hA, hN, hX, hE⟩, rfl⟩ := hG
  intro H locs ls hP hS hl
  exact va_tlen hx hb (hS0 k0 hk).2 hS hv hd (k H locs ls hP hS hl)
theorem gg_sld (hG : gg_Cl X cc nL own rt h E G) {N j : Nat} {xs : Nat → Int32} {i : Int32} (hd : decode cc pc = .ok (.iaload, 1)) (hq : X = some (N, xs)) (hi : vp_in i N) (hj : i.toNatClampNeg = j) (k : G (pc + 1) L (.int (xs j) :: st) u) : G pc L (.int i :: .ref 110 :: st) u := by
  obtain ⟨p, l, e, R, s, m, args, below, meth, c, D, ca, ad, A, cells, slots, Q, ⟨hx, hb, hml, hown, hts, hR, hK, hS0, hI, hA, hN, hX, hE⟩, rfl⟩ := hG
  intro H locs ls hP hS hl
  subst hj
  exact va_ti hx hb (hX N xs hq) hS hi rfl hd (k H locs ls hP hS hl)
theorem gg_slen (hG : gg_Cl X cc nL own rt h E G) {N : Nat} {xs : Nat → Int32} {v : Int32} (hd : decode cc pc = .ok (.arraylength, 1)) (hq : X = some (N, xs)) (hv : Int32.ofNat N = v) (k : G (pc + 1) L (.int v :: st) u) : G pc L (.ref 110 :: st) u := by
  obtain ⟨p, l, e, R, s, m, args, below, meth, c, D, ca, ad, A, cells, slots, Q, ⟨hx, hb, hml, hown, hts, hR, hK, hS0, hI, hA, hN, hX, hE⟩, rfl⟩ := hG
  intro H locs ls hP hS hl
  exact va_tlen hx hb (hX N xs hq) hS hv hd (k H locs ls hP hS hl)
theorem gg_copy (hG : gg_Cl X cc nL own rt h E G) {t0 t1 : Nat} {sp dp n : Int32} {idx : Nat} (hd : decode cc pc = .ok (.invokestatic idx, 3)) (h0 : t0 < 65) (h1 : t1 < 65) (k0 : gg_kd t0 = 20) (k1 : gg_kd t1 = 20) (hw : Cond.methodLink own idx arraycopyName ∈ gg_tG) (w2 : Cond.native arraycopyName ∈ gg_tG) (w3 : Cond.static arraycopyName ∈ gg_tG) (w4 : Cond.initialized "java/lang/System" ∈ gg_tG) (q1 : ¬ sp < 0) (q2 : ¬ dp < 0) (q3 : ¬ n < 0) (q4 : sp.toNatClampNeg + n.toNatClampNeg ≤ gg_al t0) (q5 : dp.toNatClampNeg + n.toNatClampNeg ≤ gg_al t1) (hh : 2 ≤ h) (hst : st = []) (k : G (pc + 3) L st (gg_wA u t1 (va_cpy (u.1 t0) (u.1 t1) sp.toNatClampNeg dp.toNatClampNeg n.toNatClampNeg))) : G pc L (.int n :: .int dp :: .ref t1 :: .int sp :: .ref t0 :: st) u := by
  obtain ⟨p, l, e, R, s, m, args, below, meth, c, D, ca, ad, A, cells, slots, Q, ⟨hx, hb, hml, hown, hts, hR, hK, hS0, hI, hA, hN, hX, hE⟩, rfl⟩ := hG
  intro H locs ls hP hS hl
  subst hst
  have a0 := hK.2 t0 h0 (by omega)
  have a1 := hK.2 t1 h1 (by omega)
  rw [k0] at a0
  rw [k1] at a1
  have hK2 : va_K D gg_cls [(ca t0, .int), (ca t1, .int)] s := ⟨hK.1, fun k q hq => by
    match k, hq with
    | 0, hq => cases hq; exact a0
    | 1, hq => cases hq; exact a1
    | k + 2, hq => simp at hq⟩
  refine va_copyi hx hb (hml.trans hl.2.1.symm) hown (hts _ hw) (hts _ w2) (hts _ w3) (hts _ w4) hK2 hP (gg_va_D hI hA) hS t0 t1 0 1 (by rw [gg_ws_at h0, gg_ce_i (Or.inl k0)]) (by rw [gg_ws_at h1, gg_ce_i (Or.inl k1)]) rfl rfl rfl q1 q2 q3 q4 q5 (fun _ _ => rfl) (Nat.le_trans (Nat.le_trans (by decide) hh) hR.1) (Nat.le_trans (show 0 + (nativeFrameWords "java/lang/System" "arraycopy" 5 + 11) ≤ 64 * 2 by decide +kernel) (Nat.le_trans (Nat.mul_le_mul_left 64 hh) hR.2.1)) hd (fun H1 locs1 hP1 _ hS1 => ?_)
  rw [gg_ws_set h1 (u' := gg_wA u t1 (va_cpy (u.1 t0) (u.1 t1) sp.toNatClampNeg dp.toNatClampNeg n.toNatClampNeg)) (by rw [gg_ce_i (Or.inl k1), gg_wA_1]) (fun a ha => gg_ce_wA a ha)] at hP1
  exact k H1 locs1 ls hP1 hS1 hl
theorem gg_iret (hG : gg_Cl X cc nL own rt h E G) {x : Int32} {ty : FieldType} (hd : decode cc pc = .ok (.ireturn, 1)) (hr : rt = some ty) (hn : narrow ty (.int x) = .int x) (k : E (some (.int x)) u) : G pc L [.int x] u := by
  obtain ⟨p, l, e, R, s, m, args, below, meth, c, D, ca, ad, A, cells, slots, Q, ⟨hx, hb, hml, hown, hts, hR, hK, hS0, hI, hA, hN, hX, hE⟩, rfl⟩ := hG
  intro H locs ls hP hS hl
  exact hE H locs ls pc (some (.int x)) u hP hS k ⟨⟨ty, hr, hn⟩, hd⟩
theorem gg_lret (hG : gg_Cl X cc nL own rt h E G) {x : Int64} (hd : decode cc pc = .ok (.lreturn, 1)) (hr : rt = some .long) (k : E (some (.long x)) u) : G pc L [.long x] u := by
  obtain ⟨p, l, e, R, s, m, args, below, meth, c, D, ca, ad, A, cells, slots, Q, ⟨hx, hb, hml, hown, hts, hR, hK, hS0, hI, hA, hN, hX, hE⟩, rfl⟩ := hG
  intro H locs ls hP hS hl
  exact hE H locs ls pc (some (.long x)) u hP hS k ⟨hr, hd⟩
theorem gg_aret (hG : gg_Cl X cc nL own rt h E G) {t : Nat} {n : String} (hd : decode cc pc = .ok (.areturn, 1)) (hr : rt = some (.object n)) (k : E (some (.ref t)) u) : G pc L [.ref t] u := by
  obtain ⟨p, l, e, R, s, m, args, below, meth, c, D, ca, ad, A, cells, slots, Q, ⟨hx, hb, hml, hown, hts, hR, hK, hS0, hI, hA, hN, hX, hE⟩, rfl⟩ := hG
  intro H locs ls hP hS hl
  exact hE H locs ls pc (some (.ref t)) u hP hS k ⟨⟨n, hr⟩, hd⟩
theorem gg_vret (hG : gg_Cl X cc nL own rt h E G)  (hd : decode cc pc = .ok (.return_, 1)) (hr : rt = none) (k : E none u) : G pc L [] u := by
  obtain ⟨p, l, e, R, s, m, args, below, meth, c, D, ca, ad, A, cells, slots, Q, ⟨hx, hb, hml, hown, hts, hR, hK, hS0, hI, hA, hN, hX, hE⟩, rfl⟩ := hG
  intro H locs ls hP hS hl
  exact hE H locs ls pc none u hP hS k ⟨hr, hd⟩
theorem gg_xv (hG : gg_Cl X cc nL own rt h E G) {idx nLy n h1 : Nat} {y : MethodName} {cy : ByteArray} {rt1 : Option FieldType} {As sk : List Value} {E1 : Option Value → gg_M → Prop} {t : Nat} (hd : decode cc pc = .ok (.invokevirtual idx, 3)) (hw : Cond.methodLink own idx y ∈ gg_tG) (hY : gg_Y y cy nLy rt1 n) (hV : gg_YV y) (ht : t < 65) (hk : ∃ q, gg_cls[gg_kd t]? = some q ∧ q.1 = y.cls) (hM : gg_Mt h1 y cy nLy rt1 (.ref t :: As) u E1) (hn : As.length = n) (hh : h1 < h) (hc : (st.map fun v => v.category).sum ≤ 8) (hs : sk = As.reverse ++ .ref t :: st) (k : ∀ v u1, E1 v u1 → G (pc + 3) L (v.toList ++ st) u1) : G pc L sk u := by
  obtain ⟨p, l, e, R, s, m, args, below, meth, c, D, ca, ad, A, cells, slots, Q, ⟨hx, hb, hml, hown, hts, hR, hK, hS0, hI, hA, hN, hX, hE⟩, rfl⟩ := hG
  intro H locs ls hP hS hl
  have hAq : ∀ q, gg_AS ad q → A q := fun q hq => by obtain ⟨k, hk, rfl⟩ := hq; exact hA k hk
  have hws : ∀ w ∈ (Cond.code y cy nLy rt1 :: gg_tG), w ∈ gg_tG ∧ ((w.onTables && w.keeps) = true ∨ ∃ ty, w = .arrayClass ty) := fun w hw => by
    have hw2 : w ∈ gg_tG := (List.mem_cons.mp hw).elim (fun e => e ▸ hY.1) id
    exact ⟨hw2, good_of_word (List.mem_filter.mp hw2).2⟩
  have hU : ∀ U : State, U.heap = H → s.WarmedH U.vm → gg_Wd D ca ad u U := fun U hUh hUW => by
    refine ⟨by rw [hUh]; exact hP, hK.moved hUW.alike, ?_, hI, hN.warm hUW⟩
    rw [hUh]
    exact ((hS0.kept (fun a h1 h2 => hS.2.1 a h1 h2)).moved hUW.alike).narrow hAq
  have hcat : ((st.map (gg_cv ad)).map fun v => v.category).sum ≤ 8 := by
    rw [List.map_map]
    exact Nat.le_trans (Nat.le_of_eq (congrArg List.sum (List.map_congr_left (fun v _ => gg_cat ad v)))) hc
  subst hs
  obtain ⟨q, hq, hqc⟩ := hk
  have hcl := gg_clsF hq
  have hrec := va_recv hK.v0 hP (ci := gg_kd t) (q0 := t) hq (by rw [gg_ws_at ht, gg_ce_o rfl hcl.1])
  rw [hqc] at hrec
  have hroom : (gg_rm h1).frames + 1 ≤ R.frames ∧ 8 + (nLy + 11) + (gg_rm h1).locals ≤ R.locals := ⟨Nat.le_trans hh hR.1, Nat.le_trans (by show 8 + (nLy + 11) + 64 * h1 ≤ 64 * h; have := hY.2.2.2.2; omega) hR.2.1⟩
  refine gg_calld (va_runV (As := As.map (gg_cv ad)) (rest := st.map (gg_cv ad)) (b := ad t) (C := y.cls) (n := n) (Ts := gg_tG) ⟨hx, hb, hml, hown, hts⟩ (hM l D ca ad) ⟨⟨rfl, rfl, hroom.1, hroom.2, pay_in hts hws, List.mem_cons_self, hts _ hY.1, hts _ hY.2.1, ⟨hY.2.2.1.1, hY.2.2.1.2⟩, fun sig hsg => hY.2.2.2.1 sig hsg, hts _ hw⟩, hts _ hV.1, hts _ hV.2⟩ ⟨gg_blind D ca ad u (.ref t :: As), hrec, fun U h1 h2 => ⟨rfl, hU U h1 h2⟩⟩ rfl (by rw [List.length_map]; exact hn) hl.2.1 (by simp [gg_cv, List.map_reverse]) (lv_room hcat) hd ⟨hR.2.2.1, hR.2.2.2⟩) hS hAq (fun v u1 H1 locs1 hE1 hP1 hS1 => ?_)
  have hk := k v u1 hE1 H1 locs1 ls hP1 hS1 hl
  rwa [List.map_append, show v.toList.map (gg_cv ad) = (v.map (gg_cv ad)).toList by cases v <;> rfl] at hk
theorem gg_xvN (hG : gg_Cl X cc nL own rt h E G) {idx nLy n h1 : Nat} {y : MethodName} {cy : ByteArray} {rt1 : Option FieldType} {As sk : List Value} {E1 : Option Value → gg_M → Prop} {t : Nat} (hd : decode cc pc = .ok (.invokevirtual idx, 3)) (hw : (own, idx, y, RX10) ∈ gg_nw) (hY : gg_Y y cy nLy rt1 n) (hV : gg_YV y) (ht : t < 65) (hk : ∃ q, gg_cls[gg_kd t]? = some q ∧ q.1 = y.cls) (hM : gg_Mt h1 y cy nLy rt1 (.ref t :: As) u E1) (hn : As.length = n) (hh : h1 < h) (hc : (st.map fun v => v.category).sum ≤ 8) (hs : sk = As.reverse ++ .ref t :: st) (k : ∀ v u1, E1 v u1 → G (pc + 3) L (v.toList ++ st) u1) : G pc L sk u := by
  obtain ⟨p, l, e, R, s, m, args, below, meth, c, D, ca, ad, A, cells, slots, Q, ⟨hx, hb, hml, hown, hts, hR, hK, hS0, hI, hA, hN, hX, hE⟩, rfl⟩ := hG
  intro H locs ls hP hS hl
  have hAq : ∀ q, gg_AS ad q → A q := fun q hq => by obtain ⟨k, hk, rfl⟩ := hq; exact hA k hk
  have hws : ∀ w ∈ (Cond.code y cy nLy rt1 :: gg_tG), w ∈ gg_tG ∧ ((w.onTables && w.keeps) = true ∨ ∃ ty, w = .arrayClass ty) := fun w hw => by
    have hw2 : w ∈ gg_tG := (List.mem_cons.mp hw).elim (fun e => e ▸ hY.1) id
    exact ⟨hw2, good_of_word (List.mem_filter.mp hw2).2⟩
  have hU : ∀ U : State, U.heap = H → s.WarmedH U.vm → gg_Wd D ca ad u U := fun U hUh hUW => by
    refine ⟨by rw [hUh]; exact hP, hK.moved hUW.alike, ?_, hI, hN.warm hUW⟩
    rw [hUh]
    exact ((hS0.kept (fun a h1 h2 => hS.2.1 a h1 h2)).moved hUW.alike).narrow hAq
  have hcat : ((st.map (gg_cv ad)).map fun v => v.category).sum ≤ 8 := by
    rw [List.map_map]
    exact Nat.le_trans (Nat.le_of_eq (congrArg List.sum (List.map_congr_left (fun v _ => gg_cat ad v)))) hc
  subst hs
  obtain ⟨q, hq, hqc⟩ := hk
  have hcl := gg_clsF hq
  have hrec := va_recv hK.v0 hP (ci := gg_kd t) (q0 := t) hq (by rw [gg_ws_at ht, gg_ce_o rfl hcl.1])
  rw [hqc] at hrec
  have hroom : (gg_rm h1).frames + 1 ≤ R.frames ∧ 8 + (nLy + 11) + (gg_rm h1).locals ≤ R.locals := ⟨Nat.le_trans hh hR.1, Nat.le_trans (by show 8 + (nLy + 11) + 64 * h1 ≤ 64 * h; have := hY.2.2.2.2; omega) hR.2.1⟩
  refine gg_calld (va_runVN (As := As.map (gg_cv ad)) (rest := st.map (gg_cv ad)) (b := ad t) (C := y.cls) (n := n) (Ts := gg_tG) (host := RX10) ⟨hx, hb, hml, hown, hts⟩ (hM l D ca ad) ⟨⟨⟨rfl, rfl, hroom.1, hroom.2, pay_in hts hws, List.mem_cons_self⟩, hts _ hY.1, hts _ hY.2.1, ⟨hY.2.2.1.1, hY.2.2.1.2⟩, fun sig hsg => hY.2.2.2.1 sig hsg, va_Nw.use rfl (hN _ hw)⟩, hts _ hV.1, hts _ hV.2⟩ ⟨gg_blind D ca ad u (.ref t :: As), hrec, fun U h1 h2 => ⟨rfl, hU U h1 h2⟩⟩ rfl (by rw [List.length_map]; exact hn) hl.2.1 (by simp [gg_cv, List.map_reverse]) (lv_room hcat) hd ⟨hR.2.2.1, hR.2.2.2⟩) hS hAq (fun v u1 H1 locs1 hE1 hP1 hS1 => ?_)
  have hk := k v u1 hE1 H1 locs1 ls hP1 hS1 hl
  rwa [List.map_append, show v.toList.map (gg_cv ad) = (v.map (gg_cv ad)).toList by cases v <;> rfl] at hk
theorem gg_xs (hG : gg_Cl X cc nL own rt h E G) {idx nLy n h1 : Nat} {y : MethodName} {cy : ByteArray} {rt1 : Option FieldType} {As sk : List Value} {E1 : Option Value → gg_M → Prop}  (hd : decode cc pc = .ok (.invokestatic idx, 3)) (hw : Cond.methodLink own idx y ∈ gg_tG) (hY : gg_Y y cy nLy rt1 n) (hV : Cond.static y ∈ gg_tG) (hM : gg_Mt h1 y cy nLy rt1 As u E1) (hn : As.length = n) (hh : h1 < h) (hc : (st.map fun v => v.category).sum ≤ 8) (hs : sk = As.reverse ++ st) (k : ∀ v u1, E1 v u1 → G (pc + 3) L (v.toList ++ st) u1) : G pc L sk u := by
  obtain ⟨p, l, e, R, s, m, args, below, meth, c, D, ca, ad, A, cells, slots, Q, ⟨hx, hb, hml, hown, hts, hR, hK, hS0, hI, hA, hN, hX, hE⟩, rfl⟩ := hG
  intro H locs ls hP hS hl
  have hAq : ∀ q, gg_AS ad q → A q := fun q hq => by obtain ⟨k, hk, rfl⟩ := hq; exact hA k hk
  have hws : ∀ w ∈ (Cond.code y cy nLy rt1 :: gg_tG), w ∈ gg_tG ∧ ((w.onTables && w.keeps) = true ∨ ∃ ty, w = .arrayClass ty) := fun w hw => by
    have hw2 : w ∈ gg_tG := (List.mem_cons.mp hw).elim (fun e => e ▸ hY.1) id
    exact ⟨hw2, good_of_word (List.mem_filter.mp hw2).2⟩
  have hU : ∀ U : State, U.heap = H → s.WarmedH U.vm → gg_Wd D ca ad u U := fun U hUh hUW => by
    refine ⟨by rw [hUh]; exact hP, hK.moved hUW.alike, ?_, hI, hN.warm hUW⟩
    rw [hUh]
    exact ((hS0.kept (fun a h1 h2 => hS.2.1 a h1 h2)).moved hUW.alike).narrow hAq
  have hcat : ((st.map (gg_cv ad)).map fun v => v.category).sum ≤ 8 := by
    rw [List.map_map]
    exact Nat.le_trans (Nat.le_of_eq (congrArg List.sum (List.map_congr_left (fun v _ => gg_cat ad v)))) hc
  subst hs
  have hroom : (gg_rm h1).frames + 1 ≤ R.frames ∧ 8 + (nLy + 11) + (gg_rm h1).locals ≤ R.locals := ⟨Nat.le_trans hh hR.1, Nat.le_trans (by show 8 + (nLy + 11) + 64 * h1 ≤ 64 * h; have := hY.2.2.2.2; omega) hR.2.1⟩
  refine gg_calld (va_runS (As := As.map (gg_cv ad)) (rest := st.map (gg_cv ad)) (n := n) (Ts := gg_tG) ⟨hx, hb, hml, hown, hts⟩ (hM l D ca ad) ⟨⟨rfl, rfl, hroom.1, hroom.2, pay_in hts hws, List.mem_cons_self, hts _ hY.1, hts _ hY.2.1, ⟨hY.2.2.1.1, hY.2.2.1.2⟩, fun sig hsg => hY.2.2.2.1 sig hsg, hts _ hw⟩, hts _ hV⟩ ⟨gg_blind D ca ad u As, fun U h1 h2 => ⟨rfl, hU U h1 h2⟩⟩ rfl (by rw [List.length_map]; exact hn) hl.2.1 (by simp [List.map_reverse]) (lv_room hcat) hd ⟨hR.2.2.1, hR.2.2.2⟩) hS hAq (fun v u1 H1 locs1 hE1 hP1 hS1 => ?_)
  have hk := k v u1 hE1 H1 locs1 ls hP1 hS1 hl
  rwa [List.map_append, show v.toList.map (gg_cv ad) = (v.map (gg_cv ad)).toList by cases v <;> rfl] at hk
theorem gg_xsN (hG : gg_Cl X cc nL own rt h E G) {idx nLy n h1 : Nat} {y : MethodName} {cy : ByteArray} {rt1 : Option FieldType} {As sk : List Value} {E1 : Option Value → gg_M → Prop}  (hd : decode cc pc = .ok (.invokestatic idx, 3)) (hw : (own, idx, y, RX10) ∈ gg_nw) (hY : gg_Y y cy nLy rt1 n) (hV : Cond.static y ∈ gg_tG) (hM : gg_Mt h1 y cy nLy rt1 As u E1) (hn : As.length = n) (hh : h1 < h) (hc : (st.map fun v => v.category).sum ≤ 8) (hs : sk = As.reverse ++ st) (k : ∀ v u1, E1 v u1 → G (pc + 3) L (v.toList ++ st) u1) : G pc L sk u := by
  obtain ⟨p, l, e, R, s, m, args, below, meth, c, D, ca, ad, A, cells, slots, Q, ⟨hx, hb, hml, hown, hts, hR, hK, hS0, hI, hA, hN, hX, hE⟩, rfl⟩ := hG
  intro H locs ls hP hS hl
  have hAq : ∀ q, gg_AS ad q → A q := fun q hq => by obtain ⟨k, hk, rfl⟩ := hq; exact hA k hk
  have hws : ∀ w ∈ (Cond.code y cy nLy rt1 :: gg_tG), w ∈ gg_tG ∧ ((w.onTables && w.keeps) = true ∨ ∃ ty, w = .arrayClass ty) := fun w hw => by
    have hw2 : w ∈ gg_tG := (List.mem_cons.mp hw).elim (fun e => e ▸ hY.1) id
    exact ⟨hw2, good_of_word (List.mem_filter.mp hw2).2⟩
  have hU : ∀ U : State, U.heap = H → s.WarmedH U.vm → gg_Wd D ca ad u U := fun U hUh hUW => by
    refine ⟨by rw [hUh]; exact hP, hK.moved hUW.alike, ?_, hI, hN.warm hUW⟩
    rw [hUh]
    exact ((hS0.kept (fun a h1 h2 => hS.2.1 a h1 h2)).moved hUW.alike).narrow hAq
  have hcat : ((st.map (gg_cv ad)).map fun v => v.category).sum ≤ 8 := by
    rw [List.map_map]
    exact Nat.le_trans (Nat.le_of_eq (congrArg List.sum (List.map_congr_left (fun v _ => gg_cat ad v)))) hc
  subst hs
  have hroom : (gg_rm h1).frames + 1 ≤ R.frames ∧ 8 + (nLy + 11) + (gg_rm h1).locals ≤ R.locals := ⟨Nat.le_trans hh hR.1, Nat.le_trans (by show 8 + (nLy + 11) + 64 * h1 ≤ 64 * h; have := hY.2.2.2.2; omega) hR.2.1⟩
  refine gg_calld (va_runSN (As := As.map (gg_cv ad)) (rest := st.map (gg_cv ad)) (n := n) (Ts := gg_tG) (host := RX10) ⟨hx, hb, hml, hown, hts⟩ (hM l D ca ad) ⟨⟨⟨rfl, rfl, hroom.1, hroom.2, pay_in hts hws, List.mem_cons_self⟩, hts _ hY.1, hts _ hY.2.1, ⟨hY.2.2.1.1, hY.2.2.1.2⟩, fun sig hsg => hY.2.2.2.1 sig hsg, va_Nw.use rfl (hN _ hw)⟩, hts _ hV, trivial⟩ ⟨gg_blind D ca ad u As, fun U h1 h2 => ⟨rfl, hU U h1 h2⟩⟩ rfl (by rw [List.length_map]; exact hn) hl.2.1 (by simp [List.map_reverse]) (lv_room hcat) hd ⟨hR.2.2.1, hR.2.2.2⟩) hS hAq (fun v u1 H1 locs1 hE1 hP1 hS1 => ?_)
  have hk := k v u1 hE1 H1 locs1 ls hP1 hS1 hl
  rwa [List.map_append, show v.toList.map (gg_cv ad) = (v.map (gg_cv ad)).toList by cases v <;> rfl] at hk
def gg_eI (Q : Int32 → gg_M → Prop) : Option Value → gg_M → Prop := fun v u => ∃ x, v = some (.int x) ∧ Q x u
def gg_eJ (Q : Int64 → gg_M → Prop) : Option Value → gg_M → Prop := fun v u => ∃ x, v = some (.long x) ∧ Q x u
def gg_eR (Q : Nat → gg_M → Prop) : Option Value → gg_M → Prop := fun v u => ∃ x, v = some (.ref x) ∧ Q x u
def gg_eV (Q : gg_M → Prop) : Option Value → gg_M → Prop := fun v u => v = none ∧ Q u
theorem gg_ki {Q : Int32 → gg_M → Prop} (k : ∀ x u1, Q x u1 → G pc L (.int x :: st) u1) : ∀ v u1, gg_eI Q v u1 → G pc L (v.toList ++ st) u1 := by
  rintro v u1 ⟨x, rfl, hq⟩
  exact k x u1 hq
theorem gg_kj {Q : Int64 → gg_M → Prop} (k : ∀ x u1, Q x u1 → G pc L (.long x :: st) u1) : ∀ v u1, gg_eJ Q v u1 → G pc L (v.toList ++ st) u1 := by
  rintro v u1 ⟨x, rfl, hq⟩
  exact k x u1 hq
theorem gg_kr {Q : Nat → gg_M → Prop} (k : ∀ x u1, Q x u1 → G pc L (.ref x :: st) u1) : ∀ v u1, gg_eR Q v u1 → G pc L (v.toList ++ st) u1 := by
  rintro v u1 ⟨x, rfl, hq⟩
  exact k x u1 hq
theorem gg_kv {Q : gg_M → Prop} (k : ∀ u1, Q u1 → G pc L st u1) : ∀ v u1, gg_eV Q v u1 → G pc L (v.toList ++ st) u1 := by
  rintro v u1 ⟨rfl, hq⟩
  exact k u1 hq
def gg_mask : List Bool → List (Option Value) → List (Option Value)
  | b :: r, o :: L => (if b then o else none) :: gg_mask r L
  | _, L => L
theorem gg_mask_len : ∀ (r : List Bool) (L : List (Option Value)), (gg_mask r L).length = L.length
  | [], L => rfl
  | b :: r, [] => rfl
  | b :: r, o :: L => by rw [gg_mask, List.length_cons, List.length_cons, gg_mask_len r L]
theorem gg_mask_at : ∀ (r : List Bool) (L : List (Option Value)) (j : Nat) (w : Value), (gg_mask r L)[j]? = some (some w) → L[j]? = some (some w)
  | [], L, j, w, h => h
  | b :: r, [], j, w, h => h
  | b :: r, o :: L, 0, w, h => by
    cases b
    · simp [gg_mask] at h
    · simpa [gg_mask] using h
  | b :: r, o :: L, j + 1, w, h => by
    have h2 : (gg_mask r L)[j]? = some (some w) := by simpa [gg_mask] using h
    simpa using gg_mask_at r L j w h2
theorem gg_mk (hG : gg_Cl X cc nL own rt h E G) {L1 : List (Option Value)} (r : List Bool) (hL : gg_mask r L = L1) (k : G pc L1 st u) : G pc L st u := by
  obtain ⟨p, l, e, R, s, m, args, below, meth, c, D, ca, ad, A, cells, slots, Q, ⟨hx, hb, hml, hown, hts, hR, hK, hS0, hI, hA, hN, hX, hE⟩, rfl⟩ := hG
  intro H locs ls hP hS hl
  subst hL
  refine k H locs ls hP hS ⟨by rw [gg_mask_len]; exact hl.1, hl.2.1, hl.2.2.1, fun q hq => ?_⟩
  obtain ⟨i, w⟩ := q
  obtain ⟨j, v, e1, e2, e3⟩ := (gg_lp_mem ad _ 0 i w).mp hq
  exact hl.2.2.2 _ ((gg_lp_mem ad L 0 i w).mpr ⟨j, v, e1, gg_mask_at r L j v e2, e3⟩)
end GGR
def gg_loop {S : Type} (body : S → (S → Prop) → Prop) (s0 : S) : Prop := ∃ (I : S → Prop) (m : S → Nat), I s0 ∧ ∀ s, I s → body s (fun s1 => I s1 ∧ m s1 < m s)
theorem gg_loop_use {S : Type} {body : S → (S → Prop) → Prop} {s0 : S} {P : S → Prop} (h : gg_loop body s0) (hb : ∀ s rc, body s rc → (∀ s1, rc s1 → P s1) → P s) : P s0 := by
  obtain ⟨I, m, h0, hs⟩ := h
  have key : ∀ n s, m s < n → I s → P s := by
    intro n
    induction n with
    | zero => intro s hn; omega
    | succ n ih =>
      intro s hn hI
      exact hb s _ (hs s hI) (fun s1 h1 => ih s1 (by omega) h1.1)
  exact key _ s0 (Nat.lt_succ_self _) h0
theorem gg_getD {l : List Nat} {t d : Nat} (h : l.length ≤ t) : l.getD t d = d := by simp [List.getD, List.getElem?_eq_none h]
theorem gg_kd_lt {t c : Nat} (h : gg_kd t = c) (hc : c ≠ 99) : t < 65 := by
  rcases Nat.lt_or_ge t 65 with q | q
  · exact q
  · exact absurd (h.symm.trans (show gg_kd t = 99 from gg_getD q)) hc
theorem gg_rcv {t c : Nat} {q : vw_C} (h : gg_kd t = c) (hq : gg_cls[c]? = some q) : ∃ q1, gg_cls[gg_kd t]? = some q1 ∧ q1.1 = q.1 := ⟨q, by rw [h]; exact hq, rfl⟩
theorem gg_rf8a : ∀ t, t < 65 → gg_kd t = 8 → gg_kd (gg_rf t 0) = 20 := by decide +kernel
theorem gg_rf8 {t : Nat} (h : gg_kd t = 8) : gg_kd (gg_rf t 0) = 20 := gg_rf8a t (gg_kd_lt h (by decide)) h
theorem gg_rf6a : ∀ t, t < 65 → gg_kd t = 6 → gg_kd (gg_rf t 0) = 20 := by decide +kernel
theorem gg_rf6 {t : Nat} (h : gg_kd t = 6) : gg_kd (gg_rf t 0) = 20 := gg_rf6a t (gg_kd_lt h (by decide)) h
theorem gg_rf38a : ∀ j, j < 4 → gg_kd (gg_rf 38 j) = 6 := by decide +kernel
theorem gg_rf38 {i : Int32} (h : vp_in i (gg_al 38)) : gg_kd (gg_rf 38 i.toNatClampNeg) = 6 := gg_rf38a _ (Nat.not_le.mp fun q => h (Or.inr q))
theorem gg_rf18a : ∀ j, j < 3 → gg_kd (gg_rf 18 j) = 20 := by decide +kernel
theorem gg_rf18 {i : Int32} (h : vp_in i (gg_al 18)) : gg_kd (gg_rf 18 i.toNatClampNeg) = 20 := gg_rf18a _ (Nat.not_le.mp fun q => h (Or.inr q))
theorem gg_rf22a : ∀ j, j < 3 → gg_kd (gg_rf 22 j) = 20 := by decide +kernel
theorem gg_rf22 {i : Int32} (h : vp_in i (gg_al 22)) : gg_kd (gg_rf 22 i.toNatClampNeg) = 20 := gg_rf22a _ (Nat.not_le.mp fun q => h (Or.inr q))
