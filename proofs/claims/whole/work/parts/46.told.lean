/-! lowest terms -/
def tld (a b : Nat) (what : Int32) : Int64 := if what = 0 then lN (a / Nat.gcd a b) else lN (b / Nat.gcd a b)
theorem lg_l0 {a : Nat} (ha : a < 2 ^ 62) : lN a = 0 ↔ a = 0 := pk_lEQ (b := 0) (by omega) (by decide)
theorem gcd_st {a b : Nat} : Nat.gcd b (a % b) = Nat.gcd a b := by
  rw [Nat.gcd_comm a b, Nat.gcd_rec b a, Nat.gcd_comm]
theorem cd_s {A B : Nat} {u : gg_M} {Q : Int64 → gg_M → Prop} (hA : A ≤ 2 ^ 34) (h0 : 0 < B) (hB : B ≤ 2 ^ 26) (h : Q (lN (Nat.gcd A B)) u) : w_X10_commonDivisor (lN A) (lN B) u Q := by
  unfold w_X10_commonDivisor w_X10_commonDivisor_c9
  refine gl_up 100 (fun k q => ∃ a b, q = (lN a, lN b, nI k, u) ∧ Nat.gcd a b = Nat.gcd A B ∧ a ≤ 2 ^ 34 ∧ b ≤ 2 ^ 34 ∧ (k = 0 → a = A ∧ b = B) ∧ ∀ i, k = i + 1 → b < a ∧ a * b * 2 ^ i ≤ A * B) 0 (by decide) ⟨A, B, rfl, rfl, hA, by omega, fun _ => ⟨rfl, rfl⟩, fun i e => absurd e (by omega)⟩ ?_
  rintro k q hk ⟨a, b, rfl, hg, ha, hb, z0, z1⟩ kk hkk
  unfold b_X10_commonDivisor_c9 w_X10_commonDivisor_c44
  dsimp only
  rw [lg_e0 (by omega), lg_l0 (by omega)]
  have dn : b = 0 → Q (lN a) u := by
    rintro rfl
    rw [Nat.gcd_zero_right] at hg
    rw [hg]
    exact h
  refine ⟨fun c => dn ?_, fun c => ⟨dn, fun c2 => ⟨c2, ?_⟩⟩⟩
  · have c : nI 100 ≤ nI k := c
    rw [nI_leI (by decide) (by omega)] at c
    obtain rfl : k = 100 := by omega
    obtain ⟨h1, h2⟩ := z1 99 rfl
    have h3 : A * B ≤ 2 ^ 34 * 2 ^ 26 := Nat.mul_le_mul hA hB
    refine Nat.eq_zero_of_not_pos fun hp => ?_
    have h4 : 1 * 1 ≤ a * b := Nat.mul_le_mul (by omega) hp
    have h5 : 1 * 1 * 2 ^ 99 ≤ a * b * 2 ^ 99 := Nat.mul_le_mul_right _ h4
    have h6 := Nat.le_trans h5 (Nat.le_trans h2 h3)
    exact absurd h6 (by decide)
  · have c : ¬ nI 100 ≤ nI k := c
    rw [nI_leI (by decide) (by omega)] at c
    rintro _ rfl
    rw [pk_lRem (by omega) (by omega) (by omega), nI_1]
    have hlt : a % b < b := Nat.mod_lt _ (by omega)
    have hle : a % b ≤ a := Nat.mod_le _ _
    refine hkk (by omega) _ ⟨b, a % b, rfl, by rw [gcd_st]; exact hg, hb, by omega, fun e => absurd e (by omega), fun i e => ⟨hlt, ?_⟩⟩
    obtain rfl : k = i := by omega
    rcases k with _ | k
    · obtain ⟨rfl, rfl⟩ := z0 rfl
      rw [Nat.pow_zero, Nat.mul_one, Nat.mul_comm a b]
      exact Nat.mul_le_mul_left _ hle
    · obtain ⟨h1, h2⟩ := z1 k rfl
      refine Nat.le_trans ?_ h2
      have h7 : 2 * (a % b) ≤ a := by
        have e := Nat.div_add_mod a b
        have : 1 ≤ a / b := (Nat.le_div_iff_mul_le (by omega)).mpr (by omega)
        have : b * 1 ≤ b * (a / b) := Nat.mul_le_mul_left _ this
        omega
      rw [Nat.pow_succ, show b * (a % b) * (2 ^ k * 2) = b * (2 * (a % b)) * 2 ^ k by ac_rfl, Nat.mul_comm a b]
      exact Nat.mul_le_mul_right _ (Nat.mul_le_mul_left _ h7)
theorem gcd_b {A B : Nat} (h0 : 0 < B) : 0 < Nat.gcd A B ∧ Nat.gcd A B ≤ B := ⟨Nat.gcd_pos_of_pos_right _ h0, Nat.gcd_le_right _ h0⟩
theorem told_s {A B : Nat} {what : Int32} {u : gg_M} {Q : Int64 → gg_M → Prop} (hA : A ≤ 2 ^ 34) (h0 : 0 < B) (hB : B ≤ 2 ^ 26) (h : Q (tld A B what) u) : w_X10_told (lN A) (lN B) what u Q := by
  unfold w_X10_told w_X10_told_c28
  obtain ⟨g1, g2⟩ := gcd_b (A := A) h0
  refine cd_s hA h0 hB ?_
  rw [lg_e0 (by omega), lg_l0 (by omega), pk_lDiv (by omega) (by omega) (by omega), pk_lDiv (by omega) (by omega) (by omega)]
  unfold tld at h
  refine ⟨fun _ => ⟨fun c => ⟨by omega, ?_⟩, fun c => ⟨by omega, ?_⟩⟩, fun z => by omega⟩
  · rwa [if_neg c] at h
  · rwa [if_pos c] at h
theorem lowest_s {A B : Nat} {what : Int32} {u : gg_M} {Q : Int64 → gg_M → Prop} (hA : A ≤ 2 ^ 34) (h0 : 0 < B) (hB : B ≤ 2 ^ 26) (h : Q (tld A B what) u) : w_X11_lowest (lN A) (lN B) what u Q := by
  unfold w_X11_lowest w_X11_lowest_c6
  obtain ⟨g1, g2⟩ := gcd_b (A := A) h0
  refine gl_me (fun q => ∃ a b, q = (lN a, lN b, u) ∧ Nat.gcd a b = Nat.gcd A B ∧ a ≤ 2 ^ 34 ∧ b ≤ 2 ^ 34) (fun q => q.2.1.toInt.toNat) ⟨A, B, rfl, rfl, hA, by omega⟩ ?_
  rintro q ⟨a, b, rfl, hg, ha, hb⟩ kk hkk
  unfold b_X11_lowest_c6 w_X11_lowest_c47
  dsimp only at hkk ⊢
  rw [lg_e0 (by omega), lg_l0 (a := b) (by omega)]
  refine ⟨?_, fun c2 => ⟨c2, ?_⟩⟩
  · rintro rfl
    rw [Nat.gcd_zero_right] at hg
    subst hg
    rw [lg_l0 (by omega), pk_lDiv (by omega) (by omega) (by omega), pk_lDiv (by omega) (by omega) (by omega)]
    unfold tld at h
    refine ⟨fun c => ⟨by omega, ?_⟩, fun c => ⟨by omega, ?_⟩⟩
    · rwa [if_neg c] at h
    · rwa [if_pos c] at h
  · rintro _ rfl
    rw [pk_lRem (by omega) (by omega) (by omega)]
    have hlt : a % b < b := Nat.mod_lt _ (by omega)
    refine hkk _ ⟨b, a % b, rfl, by rw [gcd_st]; exact hg, hb, by omega⟩ ?_
    dsimp only
    rw [pk_lT (by omega), pk_lT (by omega)]
    omega
/-! the bits that are counted -/
def bcf (x : Int32) : Int32 :=
  let v1 := x - ((gu_ushr x 1) &&& 1431655765)
  let v2 := (v1 &&& 858993459) + ((gu_ushr v1 2) &&& 858993459)
  let v3 := (v2 + (gu_ushr v2 4)) &&& 252645135
  let v4 := v3 + (gu_ushr v3 8)
  let v5 := v4 + (gu_ushr v4 16)
  v5 &&& 63
theorem bitCount_q {x : Int32} {u : gg_M} {Q : Int32 → gg_M → Prop} (h : Q (bcf x) u) : w_J6_bitCount_0f7a4 x u Q := by
  unfold w_J6_bitCount_0f7a4
  rintro _ rfl _ rfl _ rfl _ rfl _ rfl
  exact h
theorem bc_and {a b : Nat} (ha : a < 2 ^ 32) (hb : b < 2 ^ 32) : nI a &&& nI b = nI (a &&& b) := by
  refine Int32.toBitVec_inj.mp ?_
  refine BitVec.eq_of_toNat_eq ?_
  rw [Int32.toBitVec_and, BitVec.toNat_and, pk_tn ha, pk_tn hb, pk_tn (Nat.lt_of_le_of_lt Nat.and_le_left ha)]
theorem bc_sp (h l m k : Nat) (hl : l < 256) (hk : k < 256) : (256 * h + l) &&& (256 * m + k) = 256 * (h &&& m) + (l &&& k) := by
  have hlk : l &&& k < 256 := Nat.lt_of_le_of_lt Nat.and_le_left hl
  have e1 := Nat.and_div_two_pow (a := 256 * h + l) (b := 256 * m + k) (n := 8)
  have e2 := Nat.and_mod_two_pow (a := 256 * h + l) (b := 256 * m + k) (n := 8)
  rw [show (2 : Nat) ^ 8 = 256 from rfl, show (256 * h + l) / 256 = h by omega, show (256 * m + k) / 256 = m by omega] at e1
  rw [show (2 : Nat) ^ 8 = 256 from rfl, show (256 * h + l) % 256 = l by omega, show (256 * m + k) % 256 = k by omega] at e2
  omega
def b4 (a b c d : Nat) : Nat := 256 * (256 * (256 * d + c) + b) + a
theorem b4_and {a b c d m : Nat} (ha : a < 256) (hb : b < 256) (hc : c < 256) (hm : m < 256) : b4 a b c d &&& b4 m m m m = b4 (a &&& m) (b &&& m) (c &&& m) (d &&& m) := by
  unfold b4
  rw [bc_sp _ _ _ _ ha hm, bc_sp _ _ _ _ hb hm, bc_sp _ _ _ _ hc hm]
def c1 (b : Nat) : Nat := b - (b / 2 &&& 85)
def c2 (b : Nat) : Nat := (b &&& 51) + (b / 4 &&& 51)
def c3 (b : Nat) : Nat := (b + b / 16) % 16
theorem bc_1 : ∀ b, b < 256 → (b / 2 &&& 85 ≤ b) ∧ ((b / 2 + 128) &&& 85 = b / 2 &&& 85) := by decide +kernel
theorem bc_2 : ∀ b, b < 256 → ((b / 4 + 64) &&& 51 = b / 4 &&& 51) ∧ ((b / 4 + 128) &&& 51 = b / 4 &&& 51) ∧ ((b / 4 + 192) &&& 51 = b / 4 &&& 51) := by decide +kernel
theorem bc_3 : ∀ b, b < 256 → c2 (c1 b) ≤ 68 ∧ c2 (c1 b) % 16 ≤ 4 ∧ c3 (c2 (c1 b)) = fb_ct (fun k => b.testBit k) 8 := by decide +kernel
theorem bc_1r {b r : Nat} (hb : b < 256) (hr : r < 2) : (b / 2 + 128 * r) &&& 85 = b / 2 &&& 85 := by
  rcases (by omega : r = 0 ∨ r = 1) with rfl | rfl
  · rfl
  · exact (bc_1 b hb).2
theorem bc_2r {b r : Nat} (hb : b < 256) (hr : r < 4) : (b / 4 + 64 * r) &&& 51 = b / 4 &&& 51 := by
  obtain ⟨h1, h2, h3⟩ := bc_2 b hb
  rcases (by omega : r = 0 ∨ r = 1 ∨ r = 2 ∨ r = 3) with rfl | rfl | rfl | rfl
  · rfl
  · exact h1
  · exact h2
  · exact h3
theorem bc_sh {n : Nat} (hn : n < 2 ^ 32) (k : Nat) (s : Int32) (hs : ((s.toUInt32 &&& Int32.toUInt32 31).toBitVec % 32).toNat = k) : gu_ushr (nI n) s = nI (n / 2 ^ k) := pk_ushrN hn s k hs
theorem bc_15 (n : Nat) : n &&& 15 = n % 16 := Nat.and_two_pow_sub_one_eq_mod n 4
theorem bcf_s (x : Int32) : bcf x = nI (fb_ct (fun s => bt x s) 32) := by
  have hn : x.toBitVec.toNat < 2 ^ 32 := x.toBitVec.isLt
  have hx : x = nI x.toBitVec.toNat := Int32.toBitVec_inj.mp (BitVec.eq_of_toNat_eq (by rw [pk_tn hn]))
  have hbt : ∀ k, bt x k = x.toBitVec.toNat.testBit k := fun k => rfl
  rw [fb_ct_cong (q := fun k => x.toBitVec.toNat.testBit k) (fun k _ => hbt k)]
  generalize x.toBitVec.toNat = n at hn hx
  subst hx
  clear hbt
  have key : ∃ a b c d, a < 256 ∧ b < 256 ∧ c < 256 ∧ d < 256 ∧ n = b4 a b c d ∧ fb_ct (fun k => n.testBit k) 32 = fb_ct (fun k => a.testBit k) 8 + fb_ct (fun k => b.testBit k) 8 + fb_ct (fun k => c.testBit k) 8 + fb_ct (fun k => d.testBit k) 8 := by
    refine ⟨n % 256, n / 256 % 256, n / 65536 % 256, n / 16777216 % 256, by omega, by omega, by omega, by omega, by unfold b4; omega, ?_⟩
    rw [show 32 = 8 + (8 + (8 + 8)) from rfl, fb_ct_split, fb_ct_split, fb_ct_split]
    have e : ∀ j, fb_ct (fun k => n.testBit (8 * j + k)) 8 = fb_ct (fun k => (n / 2 ^ (8 * j) % 2 ^ 8).testBit k) 8 := fun j => fb_ct_cong fun k hk => by
      rw [Nat.testBit_mod_two_pow, Nat.testBit_div_two_pow, decide_eq_true hk, Bool.true_and, Nat.add_comm]
    have e0 := e 0
    have e1 := e 1
    have e2 := e 2
    have e3 := e 3
    simp only [Nat.reduceMul, Nat.reducePow, Nat.div_one, Nat.zero_add] at e0 e1 e2 e3
    simp only [← Nat.add_assoc, Nat.reduceAdd]
    rw [e0, e1, e2, e3]
  obtain ⟨a, b, c, d, ha, hb, hc, hd, e, ect⟩ := key
  rw [ect]
  obtain ⟨a1, a2, a3⟩ := bc_3 a ha
  obtain ⟨b1, b2, b3⟩ := bc_3 b hb
  obtain ⟨g1, g2, g3⟩ := bc_3 c hc
  obtain ⟨d1, d2, d3⟩ := bc_3 d hd
  rw [← a3, ← b3, ← g3, ← d3]
  clear a3 b3 g3 d3 ect
  have s1 : nI n - ((gu_ushr (nI n) 1) &&& 1431655765) = nI (b4 (c1 a) (c1 b) (c1 c) (c1 d)) := by
    rw [bc_sh hn 1 1 (by decide), show (1431655765 : Int32) = nI (b4 85 85 85 85) from rfl, bc_and (by omega) (by decide),
      show n / 2 ^ 1 = b4 (a / 2 + 128 * (b % 2)) (b / 2 + 128 * (c % 2)) (c / 2 + 128 * (d % 2)) (d / 2) by rw [e]; unfold b4; omega,
      b4_and (by omega) (by omega) (by omega) (by omega), bc_1r ha (by omega), bc_1r hb (by omega), bc_1r hc (by omega)]
    have x1 := (bc_1 a ha).1
    have x2 := (bc_1 b hb).1
    have x3 := (bc_1 c hc).1
    have x4 := (bc_1 d hd).1
    rw [pk_sub (by rw [e]; unfold b4; omega), e]
    congr 1
    unfold b4 c1
    omega
  have lt1 : ∀ y, y < 256 → c1 y < 256 := fun y hy => by unfold c1; omega
  have ha1 := lt1 a ha
  have hb1 := lt1 b hb
  have hc1 := lt1 c hc
  have hd1 := lt1 d hd
  unfold bcf
  dsimp only
  rw [s1]
  generalize c1 a = a at *
  generalize c1 b = b at *
  generalize c1 c = c at *
  generalize c1 d = d at *
  have lb : ∀ {a b c d : Nat}, a < 256 → b < 256 → c < 256 → d < 256 → b4 a b c d < 2 ^ 32 := fun h1 h2 h3 h4 => by unfold b4; omega
  have s2 : (nI (b4 a b c d) &&& 858993459) + ((gu_ushr (nI (b4 a b c d)) 2) &&& 858993459) = nI (b4 (c2 a) (c2 b) (c2 c) (c2 d)) := by
    have hl := lb ha1 hb1 hc1 hd1
    rw [bc_sh hl 2 2 (by decide), show (858993459 : Int32) = nI (b4 51 51 51 51) from rfl, bc_and hl (by decide), bc_and (by omega) (by decide),
      show b4 a b c d / 2 ^ 2 = b4 (a / 4 + 64 * (b % 4)) (b / 4 + 64 * (c % 4)) (c / 4 + 64 * (d % 4)) (d / 4) by unfold b4; omega,
      b4_and (by omega) (by omega) (by omega) (by omega), b4_and (by omega) (by omega) (by omega) (by omega), bc_2r ha1 (by omega), bc_2r hb1 (by omega), bc_2r hc1 (by omega), nI_add]
    congr 1
    unfold b4 c2
    omega
  rw [s2]
  clear s2 s1 e lt1
  generalize c2 a = a at *
  generalize c2 b = b at *
  generalize c2 c = c at *
  generalize c2 d = d at *
  have s3 : (nI (b4 a b c d) + gu_ushr (nI (b4 a b c d)) 4) &&& 252645135 = nI (b4 (c3 a) (c3 b) (c3 c) (c3 d)) := by
    have hl := lb (show a < 256 by omega) (show b < 256 by omega) (show c < 256 by omega) (show d < 256 by omega)
    rw [bc_sh hl 4 4 (by decide), nI_add,
      show b4 a b c d + b4 a b c d / 2 ^ 4 = b4 (a + a / 16 + 16 * (b % 16)) (b + b / 16 + 16 * (c % 16)) (c + c / 16 + 16 * (d % 16)) (d + d / 16) by unfold b4; omega,
      show (252645135 : Int32) = nI (b4 15 15 15 15) from rfl, bc_and (lb (by omega) (by omega) (by omega) (by omega)) (by decide), b4_and (by omega) (by omega) (by omega) (by omega), bc_15, bc_15, bc_15, bc_15]
    congr 1
    unfold b4 c3
    omega
  rw [s3]
  have lt3 : ∀ y, y ≤ 68 → y % 16 ≤ 4 → c3 y ≤ 8 := fun y h1 h2 => (show ∀ y, y < 69 → y % 16 ≤ 4 → c3 y ≤ 8 by decide +kernel) y (by omega) h2
  have ha3 := lt3 a a1 a2
  have hb3 := lt3 b b1 b2
  have hc3 := lt3 c g1 g2
  have hd3 := lt3 d d1 d2
  generalize c3 a = a at *
  generalize c3 b = b at *
  generalize c3 c = c at *
  generalize c3 d = d at *
  clear s3 lt3
  have hl := lb (show a < 256 by omega) (show b < 256 by omega) (show c < 256 by omega) (show d < 256 by omega)
  rw [bc_sh hl 8 8 (by decide), nI_add]
  rw [show b4 a b c d + b4 a b c d / 2 ^ 8 = b4 (a + b) (b + c) (c + d) d by unfold b4; omega]
  have hl2 := lb (show a + b < 256 by omega) (show b + c < 256 by omega) (show c + d < 256 by omega) (show d < 256 by omega)
  rw [bc_sh hl2 16 16 (by decide), nI_add, show b4 (a + b) (b + c) (c + d) d + b4 (a + b) (b + c) (c + d) d / 2 ^ 16 = b4 (a + b + c + d) (b + c + d) (c + d) d by unfold b4; omega]
  rw [pk_andN (lb (by omega) (by omega) (by omega) (by omega)) 6 (by decide)]
  congr 1
  unfold b4
  rw [show 256 * (256 * (256 * d + (c + d)) + (b + c + d)) + (a + b + c + d) = (a + b + c + d) + 2 ^ 6 * (4 * (256 * (256 * d + (c + d)) + (b + c + d))) by omega, Nat.add_mul_mod_self_left]
  omega
theorem bitCount_s {x : Int32} {u : gg_M} {Q : Int32 → gg_M → Prop} (h : Q (nI (fb_ct (fun s => bt x s) 32)) u) : w_J6_bitCount_0f7a4 x u Q := bitCount_q (by rw [bcf_s]; exact h)
