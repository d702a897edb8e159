def bt (x : Int32) (i : Nat) : Bool := x.toBitVec.getLsbD i
theorem b_ext {x y : Int32} (h : ∀ i, i < 32 → bt x i = bt y i) : x = y := Int32.toBitVec_inj.mp (BitVec.eq_of_getLsbD_eq (fun i hi => h i hi))
theorem b_or (x y : Int32) (i : Nat) : bt (x ||| y) i = (bt x i || bt y i) := by unfold bt; rw [Int32.toBitVec_or, BitVec.getLsbD_or]
theorem b_and (x y : Int32) (i : Nat) : bt (x &&& y) i = (bt x i && bt y i) := by unfold bt; rw [Int32.toBitVec_and, BitVec.getLsbD_and]
theorem b_xor (x y : Int32) (i : Nat) : bt (x ^^^ y) i = (bt x i ^^ bt y i) := by unfold bt; rw [Int32.toBitVec_xor, BitVec.getLsbD_xor]
theorem b_big {x : Int32} {i : Nat} (h : 32 ≤ i) : bt x i = false := BitVec.getLsbD_of_ge _ _ h
theorem b_255 (i : Nat) : bt 255 i = decide (i < 8) := by
  rcases Nat.lt_or_ge i 32 with h | h
  · exact (by decide +kernel : ∀ i, i < 32 → bt 255 i = decide (i < 8)) i h
  · rw [b_big h, decide_eq_false (by omega)]
theorem b_65535 (i : Nat) : bt 65535 i = decide (i < 16) := by
  rcases Nat.lt_or_ge i 32 with h | h
  · exact (by decide +kernel : ∀ i, i < 32 → bt 65535 i = decide (i < 16)) i h
  · rw [b_big h, decide_eq_false (by omega)]
theorem b_m1 : ∀ i, i < 32 → bt (-1) i = true := by decide +kernel
theorem b_0 (i : Nat) : bt 0 i = false := BitVec.getLsbD_zero
theorem s_l : ∀ n, n < 32 → ((nI n &&& 31).toBitVec.smod 32).toNat = n := by decide +kernel
theorem s_u : ∀ n, n < 32 → (((nI n).toUInt32 &&& Int32.toUInt32 31).toBitVec % 32).toNat = n := by decide +kernel
theorem b_shl (n : Nat) (hn : n < 32) (x : Int32) {i : Nat} (hi : i < 32) : bt (x <<< (nI n &&& 31)) i = (decide (n ≤ i) && bt x (i - n)) := by
  unfold bt
  rw [Int32.toBitVec_shiftLeft]
  show (x.toBitVec <<< ((nI n &&& 31).toBitVec.smod 32).toNat).getLsbD i = _
  rw [s_l n hn, BitVec.getLsbD_shiftLeft]
  rcases Nat.lt_or_ge i n with h | h
  · simp [h, Nat.not_le.mpr h]
  · simp [hi, h, Nat.not_lt.mpr h]
theorem b_ushr (n : Nat) (hn : n < 32) (x : Int32) (i : Nat) : bt ((x.toUInt32 >>> ((nI n).toUInt32 &&& Int32.toUInt32 31)).toInt32) i = bt x (n + i) := by
  show (x.toUInt32 >>> ((nI n).toUInt32 &&& Int32.toUInt32 31)).toBitVec.getLsbD i = x.toUInt32.toBitVec.getLsbD (n + i)
  rw [UInt32.toBitVec_shiftRight]
  show (x.toUInt32.toBitVec >>> (((nI n).toUInt32 &&& Int32.toUInt32 31).toBitVec % 32).toNat).getLsbD i = _
  rw [s_u n hn, BitVec.getLsbD_ushiftRight]
theorem b_sshr (n : Nat) (hn : n < 32) (x : Int32) {i : Nat} (hi : i < 32) : bt (x >>> (nI n &&& 31)) i = if n + i < 32 then bt x (n + i) else bt x 31 := by
  unfold bt
  rw [Int32.toBitVec_shiftRight]
  show (x.toBitVec.sshiftRight ((nI n &&& 31).toBitVec.smod 32).toNat).getLsbD i = _
  rw [s_l n hn, BitVec.getLsbD_sshiftRight, BitVec.msb_eq_getLsbD_last]
  simp [hi]
theorem wb_tb (n : Nat) : (lN n).toBitVec = BitVec.ofNat 64 n := rfl
theorem wb_inj {a b : Int64} (h : a.toBitVec = b.toBitVec) : a = b := Int64.toBitVec_inj.mp h
theorem wb_tn {n : Nat} (h : n < 2 ^ 64) : (lN n).toBitVec.toNat = n := by rw [wb_tb, BitVec.toNat_ofNat, Nat.mod_eq_of_lt h]
theorem wb_of (x : Int64) : ∃ n, n < 2 ^ 64 ∧ x = lN n := ⟨x.toBitVec.toNat, x.toBitVec.isLt, wb_inj (by rw [wb_tb]; simp)⟩
theorem wb_of32 (x : Int32) : ∃ n, n < 2 ^ 32 ∧ x = nI n := ⟨x.toBitVec.toNat, x.toBitVec.isLt, Int32.toBitVec_inj.mp (by show _ = BitVec.ofNat 32 _; simp)⟩
theorem wb_c : ∀ k, k < 64 → ((nI k).toInt64 &&& 63) = lN k := by decide +kernel
theorem wb_cu : ∀ k, k < 64 → ((nI k).toInt64.toUInt64 &&& Int64.toUInt64 63) = UInt64.ofNat k := by decide +kernel
theorem wb_sm : ∀ k, k < 64 → (BitVec.ofNat 64 k).smod 64 = BitVec.ofNat 64 k := by decide +kernel
theorem wb_pw {a b : Nat} (h : a ≤ b) : 2 ^ b = 2 ^ a * 2 ^ (b - a) := by rw [← Nat.pow_add]; congr 1; omega
theorem wb_lt2 {a b : Nat} (h : a < b) : 2 ^ a < 2 ^ b := Nat.pow_lt_pow_right (by decide) h
theorem wb_mod (n : Nat) : lN n = lN (n % 2 ^ 64) := wb_inj (by rw [wb_tb, wb_tb]; apply BitVec.eq_of_toNat_eq; rw [BitVec.toNat_ofNat, BitVec.toNat_ofNat, Nat.mod_mod])
theorem wb_shr {n k : Nat} (hn : n < 2 ^ 64) (hk : k < 64) : ((lN n).toUInt64 >>> ((nI k).toInt64.toUInt64 &&& Int64.toUInt64 63)).toInt64 = lN (n / 2 ^ k) := by
  rw [wb_cu k hk]
  apply wb_inj
  apply BitVec.eq_of_toNat_eq
  show ((lN n).toUInt64 >>> UInt64.ofNat k).toNat = (BitVec.ofNat 64 _).toNat
  have h1 : (UInt64.ofNat k).toNat = k := by
    show (BitVec.ofNat 64 k).toNat = k
    rw [BitVec.toNat_ofNat, Nat.mod_eq_of_lt (by omega)]
  have h2 : (lN n).toUInt64.toNat = n := wb_tn hn
  rw [UInt64.toNat_shiftRight, h1, h2, Nat.mod_eq_of_lt hk, Nat.shiftRight_eq_div_pow, BitVec.toNat_ofNat, Nat.mod_eq_of_lt (Nat.lt_of_le_of_lt (Nat.div_le_self _ _) hn)]
theorem wb_shl (n : Nat) {k : Nat} (hk : k < 64) : lN n <<< ((nI k).toInt64 &&& 63) = lN (n * 2 ^ k) := by
  rw [wb_c k hk]
  apply wb_inj
  rw [Int64.toBitVec_shiftLeft, wb_tb, wb_tb, wb_tb, wb_sm k hk]
  apply BitVec.eq_of_toNat_eq
  rw [BitVec.shiftLeft_eq', BitVec.toNat_shiftLeft, BitVec.toNat_ofNat, BitVec.toNat_ofNat, BitVec.toNat_ofNat, Nat.mod_eq_of_lt (show k < 2 ^ 64 by omega), Nat.shiftLeft_eq, Nat.mul_mod, Nat.mod_mod, ← Nat.mul_mod]
theorem wb_and {a b : Nat} (ha : a < 2 ^ 64) (hb : b < 2 ^ 64) : lN a &&& lN b = lN (a &&& b) := by
  apply wb_inj
  rw [Int64.toBitVec_and, wb_tb, wb_tb, wb_tb]
  apply BitVec.eq_of_toNat_eq
  rw [BitVec.toNat_and, BitVec.toNat_ofNat, BitVec.toNat_ofNat, BitVec.toNat_ofNat, Nat.mod_eq_of_lt ha, Nat.mod_eq_of_lt hb, Nat.mod_eq_of_lt (Nat.and_lt_two_pow _ hb)]
theorem wb_or {a b : Nat} (ha : a < 2 ^ 64) (hb : b < 2 ^ 64) : lN a ||| lN b = lN (a ||| b) := by
  apply wb_inj
  rw [Int64.toBitVec_or, wb_tb, wb_tb, wb_tb]
  apply BitVec.eq_of_toNat_eq
  rw [BitVec.toNat_or, BitVec.toNat_ofNat, BitVec.toNat_ofNat, BitVec.toNat_ofNat, Nat.mod_eq_of_lt ha, Nat.mod_eq_of_lt hb, Nat.mod_eq_of_lt (Nat.or_lt_two_pow ha hb)]
theorem wb_mask {n k : Nat} (hn : n < 2 ^ 64) (hk : k < 64) : lN n &&& lN (2 ^ k - 1) = lN (n % 2 ^ k) := by
  rw [wb_and hn (by have := wb_lt2 hk; omega), Nat.and_two_pow_sub_one_eq_mod]
theorem wb_a1 {n : Nat} (hn : n < 2 ^ 64) : lN n &&& 1 = lN (n % 2) := wb_mask (k := 1) hn (by decide)
theorem wb_bit {n k : Nat} (hn : n < 2 ^ 64) (hk : k < 64) : ((lN n).toUInt64 >>> ((nI k).toInt64.toUInt64 &&& Int64.toUInt64 63)).toInt64 &&& 1 = lN (n / 2 ^ k % 2) := by
  rw [wb_shr hn hk, wb_a1 (Nat.lt_of_le_of_lt (Nat.div_le_self _ _) hn)]
theorem u_tn {n : Nat} (h : n < 2 ^ 64) : (UInt64.ofNat n).toNat = n := Nat.mod_eq_of_lt h
theorem g_or {k p a b : Nat} (hp : 2 ^ k = p) (ha : a < p) (h : b * p + a < 2 ^ 64) : lN (b * p) ||| lN a = lN (b * p + a) := by
  subst hp
  have h1 : b * 2 ^ k ||| a = b * 2 ^ k + a := by rw [← Nat.shiftLeft_eq, Nat.shiftLeft_add_eq_or_of_lt ha]
  have h3 : UInt64.ofNat (b * 2 ^ k) ||| UInt64.ofNat a = UInt64.ofNat (b * 2 ^ k + a) := UInt64.toNat_inj.mp (by rw [UInt64.toNat_or, u_tn (by omega), u_tn (by omega), u_tn h, h1])
  have h2 := congrArg UInt64.toInt64 h3
  exact h2
/-! a state in one long -/
def ek8 (f g : Nat → Int32) : Prop := ∀ j, j < 8 → f j = g j
def pkS (st : Nat → Int32) : Int64 := (gu_lshl ((gu_lshl ((gu_lshl ((gu_lshl ((gu_lshl ((gu_lshl ((gu_lshl (if st 7 = 0 then 0 else 1) 8) ||| (st 6).toInt64) 8) ||| (st 5).toInt64) 8) ||| (st 4).toInt64) 8) ||| (st 3).toInt64) 8) ||| (st 2).toInt64) 8) ||| (st 1).toInt64) 8) ||| (st 0).toInt64
theorem p_pack {t : Nat} {u : gg_M} {Q : Int64 → gg_M → Prop} (h : Q (pkS (u.1 t)) u) : w_X7_pack t u Q := by
  unfold w_X7_pack w_X7_pack_c12
  unfold pkS at h
  refine ⟨fun c => ?_, fun c => ?_⟩
  · rintro v1 rfl v2 rfl v3 rfl v4 rfl v5 rfl v6 rfl
    rwa [if_pos c] at h
  · rintro v1 rfl v2 rfl v3 rfl v4 rfl v5 rfl v6 rfl
    rwa [if_neg c] at h
theorem pkS_congr {f g : Nat → Int32} (h : ek8 f g) : pkS f = pkS g := by
  unfold pkS
  rw [h 0 (by decide), h 1 (by decide), h 2 (by decide), h 3 (by decide), h 4 (by decide), h 5 (by decide), h 6 (by decide), h 7 (by decide)]
def pkN (s0 s1 s2 s3 s4 s5 s6 s7 : Nat) : Nat := ((((((s7 * 256 + s6) * 256 + s5) * 256 + s4) * 256 + s3) * 256 + s2) * 256 + s1) * 256 + s0
theorem pk_step {n s : Nat} (hn : n < 2 ^ 48) (hs : s < 256) : (gu_lshl (lN n) 8) ||| (nI s).toInt64 = lN (n * 256 + s) := by
  have e : gu_lshl (lN n) 8 = lN (n * 256) := wb_shl n (k := 8) (by decide)
  rw [e, nI_l (by omega)]
  exact g_or (k := 8) (by decide) hs (by omega)
theorem pkS_N {st : Nat → Int32} {s0 s1 s2 s3 s4 s5 s6 s7 : Nat} (h0 : st 0 = nI s0) (h1 : st 1 = nI s1) (h2 : st 2 = nI s2) (h3 : st 3 = nI s3) (h4 : st 4 = nI s4) (h5 : st 5 = nI s5) (h6 : st 6 = nI s6) (h7 : st 7 = nI s7)
    (l0 : s0 < 256) (l1 : s1 < 256) (l2 : s2 < 256) (l3 : s3 < 256) (l4 : s4 < 256) (l5 : s5 < 256) (l6 : s6 < 256) (l7 : s7 < 2) : pkS st = lN (pkN s0 s1 s2 s3 s4 s5 s6 s7) := by
  unfold pkS pkN
  rw [h0, h1, h2, h3, h4, h5, h6, h7]
  have e7 : (if nI s7 = 0 then (0 : Int64) else 1) = lN s7 := by
    match s7, l7 with
    | 0, _ => rfl
    | 1, _ => rfl
  rw [e7, pk_step (by omega) l6, pk_step (by omega) l5, pk_step (by omega) l4, pk_step (by omega) l3, pk_step (by omega) l2, pk_step (by omega) l1]
  have e : gu_lshl (lN ((((((s7 * 256 + s6) * 256 + s5) * 256 + s4) * 256 + s3) * 256 + s2) * 256 + s1)) 8 = lN (((((((s7 * 256 + s6) * 256 + s5) * 256 + s4) * 256 + s3) * 256 + s2) * 256 + s1) * 256) := wb_shl _ (k := 8) (by decide)
  rw [e, nI_l (by omega)]
  exact g_or (k := 8) (by decide) l0 (by omega)
def ptO (x : Int64) (k : Int32) : Int32 := (gu_lushr x ((8 : Int32) * k)).toInt32 &&& 255
theorem ptO_N {N k : Nat} (hN : N < 2 ^ 64) (hk : k < 8) : ptO (lN N) (nI k) = nI (N / 2 ^ (8 * k) % 256) := by
  unfold ptO
  have e1 : (8 : Int32) * nI k = nI (8 * k) := pk_mul 8 k
  have e2 : gu_lushr (lN N) (nI (8 * k)) = lN (N / 2 ^ (8 * k)) := wb_shr hN (by omega)
  rw [e1, e2, lN_i, pk_and _ (m := 255) 8 (by decide)]
  congr 1
  show (BitVec.ofNat 32 _).toNat % 256 = _
  rw [BitVec.toNat_ofNat]
  omega
theorem ptO_S {mv st : Nat → Int32} (hO : dz_O mv st) (hm : mv 5 ≤ 30) : ∀ k, k < 8 → ptO (pkS st) (nI k) = st k := by
  obtain ⟨o0, o1, o2, o3, o4, o5, o6, o7⟩ := hO
  have of : ∀ (x M : Int32) (m : Nat), M.toInt = m → 0 ≤ x → x ≤ M → ∃ j, j ≤ m ∧ x = nI j := fun x M m hM h1 h2 => nI_of2 hM (fun q => by grind) h2
  obtain ⟨s0, l0, e0⟩ := of (st 0) 30 30 (by decide) o0.1 (by grind)
  obtain ⟨s1, l1, e1⟩ := of (st 1) 99 99 (by decide) o1.1 o1.2
  obtain ⟨s2, l2, e2⟩ := of (st 2) 60 60 (by decide) o2.1 o2.2
  obtain ⟨s3, l3, e3⟩ := of (st 3) 99 99 (by decide) o3.1 o3.2
  obtain ⟨s4, l4, e4⟩ := of (st 4) 20 20 (by decide) o4.1 o4.2
  obtain ⟨s5, l5, e5⟩ := of (st 5) 5 5 (by decide) o5.1 o5.2
  obtain ⟨s6, l6, e6⟩ := of (st 6) 31 31 (by decide) o6.1 (by grind)
  obtain ⟨s7, l7, e7⟩ : ∃ j, j < 2 ∧ st 7 = nI j := by
    rcases o7 with q | q
    · exact ⟨0, by decide, q⟩
    · exact ⟨1, by decide, q⟩
  rw [pkS_N e0 e1 e2 e3 e4 e5 e6 e7 (by omega) (by omega) (by omega) (by omega) (by omega) (by omega) (by omega) l7]
  have hN : pkN s0 s1 s2 s3 s4 s5 s6 s7 < 2 ^ 64 := by unfold pkN; omega
  refine lt8 ?_ ?_ ?_ ?_ ?_ ?_ ?_ ?_
  · rw [ptO_N hN (by decide), e0]; congr 1; unfold pkN; omega
  · rw [ptO_N hN (by decide), e1]; congr 1; unfold pkN; omega
  · rw [ptO_N hN (by decide), e2]; congr 1; unfold pkN; omega
  · rw [ptO_N hN (by decide), e3]; congr 1; unfold pkN; omega
  · rw [ptO_N hN (by decide), e4]; congr 1; unfold pkN; omega
  · rw [ptO_N hN (by decide), e5]; congr 1; unfold pkN; omega
  · rw [ptO_N hN (by decide), e6]; congr 1; unfold pkN; omega
  · rw [ptO_N hN (by decide), e7]; congr 1; unfold pkN; omega
theorem p_partOf {x : Int64} {k : Int32} {u : gg_M} {Q : Int32 → gg_M → Prop} (h : Q (ptO x k) u) : w_X7_partOf x k u Q := h
theorem p_unpack {t : Nat} {mv st : Nat → Int32} {u : gg_M} {Q : gg_M → Prop} (hO : dz_O mv st) (hm : mv 5 ≤ 30) (h : Q (gg_wA u t (dz_mk (u.1 t) (st 0) (st 1) (st 2) (st 3) (st 4) (st 5) (st 6) (st 7)))) : w_X7_unpack t (pkS st) u Q := by
  have hp := ptO_S hO hm
  have h0 : ptO (pkS st) 0 = st 0 := hp 0 (by decide)
  have h1 : ptO (pkS st) 1 = st 1 := hp 1 (by decide)
  have h2 : ptO (pkS st) 2 = st 2 := hp 2 (by decide)
  have h3 : ptO (pkS st) 3 = st 3 := hp 3 (by decide)
  have h4 : ptO (pkS st) 4 = st 4 := hp 4 (by decide)
  have h5 : ptO (pkS st) 5 = st 5 := hp 5 (by decide)
  have h6 : ptO (pkS st) 6 = st 6 := hp 6 (by decide)
  have h7 : ptO (pkS st) 7 = st 7 := hp 7 (by decide)
  unfold w_X7_unpack w_X7_unpack_c80
  refine p_partOf ?_
  rintro _ rfl
  refine p_partOf ?_
  rintro _ rfl
  refine p_partOf ?_
  rintro _ rfl
  refine p_partOf ?_
  rintro _ rfl
  refine p_partOf ?_
  rintro _ rfl
  refine p_partOf ?_
  rintro _ rfl
  refine p_partOf ?_
  rintro _ rfl
  refine p_partOf ?_
  rw [h0, h1, h2, h3, h4, h5, h6, h7]
  have fin : ∀ z, z = st 7 → ∀ u2, u2 = gg_wI (gg_wI (gg_wI (gg_wI (gg_wI (gg_wI (gg_wI (gg_wI u t 0 (st 0)) t 1 (st 1)) t 2 (st 2)) t 3 (st 3)) t 4 (st 4)) t 5 (st 5)) t 6 (st 6)) t 7 z → Q u2 := by
    rintro z rfl _ rfl
    have e : upd (upd (upd (upd (upd (upd (upd (upd (u.1 t) 0 (st 0)) 1 (st 1)) 2 (st 2)) 3 (st 3)) 4 (st 4)) 5 (st 5)) 6 (st 6)) 7 (st 7) = dz_mk (u.1 t) (st 0) (st 1) (st 2) (st 3) (st 4) (st 5) (st 6) (st 7) := ext8 (lt8 rfl rfl rfl rfl rfl rfl rfl rfl) (fun j hj => by
      rw [dz_mk_hi _ _ _ _ _ _ _ _ _ hj]
      repeat rw [upd_ne _ _ (by omega)])
    simp only [gm_I, gm_AA, gg_wA_1]
    rw [e]
    exact h
  have o7 := hO.2.2.2.2.2.2.2
  refine ⟨fun c => ⟨Or.inl rfl, fin 0 (by grind)⟩, fun c => ⟨Or.inr rfl, fin 1 c.symm⟩⟩
