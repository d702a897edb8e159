/-! the shape, out of what the constructors made -/
def AD (h m : Nat) (a b adS : Nat → Nat) : Nat → Nat := fun t => if t < 65 then [h, m, a 0, a 2, a 1, a 3, a 4, a 5, a 6, a 7, a 8, a 9, a 10, a 11, a 12, a 13, a 14, a 15, a 16, a 17, a 18, a 19, a 20, a 21, a 22, a 23, a 24, a 25, a 26, a 27, a 30, a 28, a 29, a 31, a 32, a 33, a 34, a 35, a 36, a 37, a 39, a 41, a 43, a 38, a 40, a 42, a 44, b 0, b 1, b 2, b 3, b 4, b 5, b 6, b 7, b 8, b 9, b 10, b 11, b 12, b 13, b 14, b 15, b 16, b 17].getD t 0 else adS t
def CAk (k : Nat → ClassId) : Nat → ClassId := fun t => if gg_kd t = 20 then k 0 else if gg_kd t = 21 then k 1 else if gg_kd t = 22 then k 2 else if gg_kd t = 23 then k 3 else k 4
def PIx (t : Nat) : Nat := [0, 46, 1, 3, 2, 4, 5, 6, 7, 8, 9, 10, 11, 12, 13, 14, 15, 16, 17, 18, 19, 20, 21, 22, 23, 24, 25, 26, 27, 28, 31, 29, 30, 32, 33, 34, 35, 36, 37, 38, 40, 42, 44, 39, 41, 43, 45, 47, 48, 49, 50, 51, 52, 53, 54, 55, 56, 57, 58, 59, 60, 61, 62, 63, 64].getD t 0
def SGx (t : Nat) : Nat := [0, 2, 4, 3, 5, 6, 7, 8, 9, 10, 11, 12, 13, 14, 15, 16, 17, 18, 19, 20, 21, 22, 23, 24, 25, 26, 27, 28, 29, 31, 32, 30, 33, 34, 35, 36, 37, 38, 39, 43, 40, 44, 41, 45, 42, 46, 1, 47, 48, 49, 50, 51, 52, 53, 54, 55, 56, 57, 58, 59, 60, 61, 62, 63, 64].getD t 0
theorem SG_PI : ∀ t, t < 65 → SGx (PIx t) = t := by decide +kernel
def WS (k : Nat → ClassId) (h m : Nat) (a b : Nat → Nat) : va_W := pX10_init k h a ++ pX11_init k m b
theorem ce_0 (k : Nat → ClassId) (h m : Nat) (a b adS : Nat → Nat) : (WS k h m a b)[0]? = some (AD h m a b adS 0, gg_ce (AD h m a b adS) (CAk k) u0 0) := rfl
theorem ce_1 (k : Nat → ClassId) (h m : Nat) (a b adS : Nat → Nat) : (WS k h m a b)[46]? = some (AD h m a b adS 1, gg_ce (AD h m a b adS) (CAk k) u0 1) := rfl
theorem ce_2 (k : Nat → ClassId) (h m : Nat) (a b adS : Nat → Nat) : (WS k h m a b)[1]? = some (AD h m a b adS 2, gg_ce (AD h m a b adS) (CAk k) u0 2) := rfl
theorem ce_3 (k : Nat → ClassId) (h m : Nat) (a b adS : Nat → Nat) : (WS k h m a b)[3]? = some (AD h m a b adS 3, gg_ce (AD h m a b adS) (CAk k) u0 3) := rfl
theorem ce_4 (k : Nat → ClassId) (h m : Nat) (a b adS : Nat → Nat) : (WS k h m a b)[2]? = some (AD h m a b adS 4, gg_ce (AD h m a b adS) (CAk k) u0 4) := rfl
theorem ce_5 (k : Nat → ClassId) (h m : Nat) (a b adS : Nat → Nat) : (WS k h m a b)[4]? = some (AD h m a b adS 5, gg_ce (AD h m a b adS) (CAk k) u0 5) := rfl
theorem ce_6 (k : Nat → ClassId) (h m : Nat) (a b adS : Nat → Nat) : (WS k h m a b)[5]? = some (AD h m a b adS 6, gg_ce (AD h m a b adS) (CAk k) u0 6) := rfl
theorem ce_7 (k : Nat → ClassId) (h m : Nat) (a b adS : Nat → Nat) : (WS k h m a b)[6]? = some (AD h m a b adS 7, gg_ce (AD h m a b adS) (CAk k) u0 7) := rfl
theorem ce_8 (k : Nat → ClassId) (h m : Nat) (a b adS : Nat → Nat) : (WS k h m a b)[7]? = some (AD h m a b adS 8, gg_ce (AD h m a b adS) (CAk k) u0 8) := rfl
theorem ce_9 (k : Nat → ClassId) (h m : Nat) (a b adS : Nat → Nat) : (WS k h m a b)[8]? = some (AD h m a b adS 9, gg_ce (AD h m a b adS) (CAk k) u0 9) := rfl
theorem ce_10 (k : Nat → ClassId) (h m : Nat) (a b adS : Nat → Nat) : (WS k h m a b)[9]? = some (AD h m a b adS 10, gg_ce (AD h m a b adS) (CAk k) u0 10) := rfl
theorem ce_11 (k : Nat → ClassId) (h m : Nat) (a b adS : Nat → Nat) : (WS k h m a b)[10]? = some (AD h m a b adS 11, gg_ce (AD h m a b adS) (CAk k) u0 11) := rfl
theorem ce_12 (k : Nat → ClassId) (h m : Nat) (a b adS : Nat → Nat) : (WS k h m a b)[11]? = some (AD h m a b adS 12, gg_ce (AD h m a b adS) (CAk k) u0 12) := rfl
theorem ce_13 (k : Nat → ClassId) (h m : Nat) (a b adS : Nat → Nat) : (WS k h m a b)[12]? = some (AD h m a b adS 13, gg_ce (AD h m a b adS) (CAk k) u0 13) := rfl
theorem ce_14 (k : Nat → ClassId) (h m : Nat) (a b adS : Nat → Nat) : (WS k h m a b)[13]? = some (AD h m a b adS 14, gg_ce (AD h m a b adS) (CAk k) u0 14) := rfl
theorem ce_15 (k : Nat → ClassId) (h m : Nat) (a b adS : Nat → Nat) : (WS k h m a b)[14]? = some (AD h m a b adS 15, gg_ce (AD h m a b adS) (CAk k) u0 15) := rfl
theorem ce_16 (k : Nat → ClassId) (h m : Nat) (a b adS : Nat → Nat) : (WS k h m a b)[15]? = some (AD h m a b adS 16, gg_ce (AD h m a b adS) (CAk k) u0 16) := rfl
theorem ce_17 (k : Nat → ClassId) (h m : Nat) (a b adS : Nat → Nat) : (WS k h m a b)[16]? = some (AD h m a b adS 17, gg_ce (AD h m a b adS) (CAk k) u0 17) := rfl
theorem ce_19 (k : Nat → ClassId) (h m : Nat) (a b adS : Nat → Nat) : (WS k h m a b)[18]? = some (AD h m a b adS 19, gg_ce (AD h m a b adS) (CAk k) u0 19) := rfl
theorem ce_20 (k : Nat → ClassId) (h m : Nat) (a b adS : Nat → Nat) : (WS k h m a b)[19]? = some (AD h m a b adS 20, gg_ce (AD h m a b adS) (CAk k) u0 20) := rfl
theorem ce_21 (k : Nat → ClassId) (h m : Nat) (a b adS : Nat → Nat) : (WS k h m a b)[20]? = some (AD h m a b adS 21, gg_ce (AD h m a b adS) (CAk k) u0 21) := rfl
theorem ce_23 (k : Nat → ClassId) (h m : Nat) (a b adS : Nat → Nat) : (WS k h m a b)[22]? = some (AD h m a b adS 23, gg_ce (AD h m a b adS) (CAk k) u0 23) := rfl
theorem ce_24 (k : Nat → ClassId) (h m : Nat) (a b adS : Nat → Nat) : (WS k h m a b)[23]? = some (AD h m a b adS 24, gg_ce (AD h m a b adS) (CAk k) u0 24) := rfl
theorem ce_25 (k : Nat → ClassId) (h m : Nat) (a b adS : Nat → Nat) : (WS k h m a b)[24]? = some (AD h m a b adS 25, gg_ce (AD h m a b adS) (CAk k) u0 25) := rfl
theorem ce_26 (k : Nat → ClassId) (h m : Nat) (a b adS : Nat → Nat) : (WS k h m a b)[25]? = some (AD h m a b adS 26, gg_ce (AD h m a b adS) (CAk k) u0 26) := rfl
theorem ce_27 (k : Nat → ClassId) (h m : Nat) (a b adS : Nat → Nat) : (WS k h m a b)[26]? = some (AD h m a b adS 27, gg_ce (AD h m a b adS) (CAk k) u0 27) := rfl
theorem ce_28 (k : Nat → ClassId) (h m : Nat) (a b adS : Nat → Nat) : (WS k h m a b)[27]? = some (AD h m a b adS 28, gg_ce (AD h m a b adS) (CAk k) u0 28) := rfl
theorem ce_29 (k : Nat → ClassId) (h m : Nat) (a b adS : Nat → Nat) : (WS k h m a b)[28]? = some (AD h m a b adS 29, gg_ce (AD h m a b adS) (CAk k) u0 29) := rfl
theorem ce_30 (k : Nat → ClassId) (h m : Nat) (a b adS : Nat → Nat) : (WS k h m a b)[31]? = some (AD h m a b adS 30, gg_ce (AD h m a b adS) (CAk k) u0 30) := rfl
theorem ce_31 (k : Nat → ClassId) (h m : Nat) (a b adS : Nat → Nat) : (WS k h m a b)[29]? = some (AD h m a b adS 31, gg_ce (AD h m a b adS) (CAk k) u0 31) := rfl
theorem ce_32 (k : Nat → ClassId) (h m : Nat) (a b adS : Nat → Nat) : (WS k h m a b)[30]? = some (AD h m a b adS 32, gg_ce (AD h m a b adS) (CAk k) u0 32) := rfl
theorem ce_33 (k : Nat → ClassId) (h m : Nat) (a b adS : Nat → Nat) : (WS k h m a b)[32]? = some (AD h m a b adS 33, gg_ce (AD h m a b adS) (CAk k) u0 33) := rfl
theorem ce_34 (k : Nat → ClassId) (h m : Nat) (a b adS : Nat → Nat) : (WS k h m a b)[33]? = some (AD h m a b adS 34, gg_ce (AD h m a b adS) (CAk k) u0 34) := rfl
theorem ce_35 (k : Nat → ClassId) (h m : Nat) (a b adS : Nat → Nat) : (WS k h m a b)[34]? = some (AD h m a b adS 35, gg_ce (AD h m a b adS) (CAk k) u0 35) := rfl
theorem ce_36 (k : Nat → ClassId) (h m : Nat) (a b adS : Nat → Nat) : (WS k h m a b)[35]? = some (AD h m a b adS 36, gg_ce (AD h m a b adS) (CAk k) u0 36) := rfl
theorem ce_37 (k : Nat → ClassId) (h m : Nat) (a b adS : Nat → Nat) : (WS k h m a b)[36]? = some (AD h m a b adS 37, gg_ce (AD h m a b adS) (CAk k) u0 37) := rfl
theorem ce_39 (k : Nat → ClassId) (h m : Nat) (a b adS : Nat → Nat) : (WS k h m a b)[38]? = some (AD h m a b adS 39, gg_ce (AD h m a b adS) (CAk k) u0 39) := rfl
theorem ce_40 (k : Nat → ClassId) (h m : Nat) (a b adS : Nat → Nat) : (WS k h m a b)[40]? = some (AD h m a b adS 40, gg_ce (AD h m a b adS) (CAk k) u0 40) := rfl
theorem ce_41 (k : Nat → ClassId) (h m : Nat) (a b adS : Nat → Nat) : (WS k h m a b)[42]? = some (AD h m a b adS 41, gg_ce (AD h m a b adS) (CAk k) u0 41) := rfl
theorem ce_42 (k : Nat → ClassId) (h m : Nat) (a b adS : Nat → Nat) : (WS k h m a b)[44]? = some (AD h m a b adS 42, gg_ce (AD h m a b adS) (CAk k) u0 42) := rfl
theorem ce_43 (k : Nat → ClassId) (h m : Nat) (a b adS : Nat → Nat) : (WS k h m a b)[39]? = some (AD h m a b adS 43, gg_ce (AD h m a b adS) (CAk k) u0 43) := rfl
theorem ce_44 (k : Nat → ClassId) (h m : Nat) (a b adS : Nat → Nat) : (WS k h m a b)[41]? = some (AD h m a b adS 44, gg_ce (AD h m a b adS) (CAk k) u0 44) := rfl
theorem ce_45 (k : Nat → ClassId) (h m : Nat) (a b adS : Nat → Nat) : (WS k h m a b)[43]? = some (AD h m a b adS 45, gg_ce (AD h m a b adS) (CAk k) u0 45) := rfl
theorem ce_46 (k : Nat → ClassId) (h m : Nat) (a b adS : Nat → Nat) : (WS k h m a b)[45]? = some (AD h m a b adS 46, gg_ce (AD h m a b adS) (CAk k) u0 46) := rfl
theorem ce_47 (k : Nat → ClassId) (h m : Nat) (a b adS : Nat → Nat) : (WS k h m a b)[47]? = some (AD h m a b adS 47, gg_ce (AD h m a b adS) (CAk k) u0 47) := rfl
theorem ce_48 (k : Nat → ClassId) (h m : Nat) (a b adS : Nat → Nat) : (WS k h m a b)[48]? = some (AD h m a b adS 48, gg_ce (AD h m a b adS) (CAk k) u0 48) := rfl
theorem ce_49 (k : Nat → ClassId) (h m : Nat) (a b adS : Nat → Nat) : (WS k h m a b)[49]? = some (AD h m a b adS 49, gg_ce (AD h m a b adS) (CAk k) u0 49) := rfl
theorem ce_50 (k : Nat → ClassId) (h m : Nat) (a b adS : Nat → Nat) : (WS k h m a b)[50]? = some (AD h m a b adS 50, gg_ce (AD h m a b adS) (CAk k) u0 50) := rfl
theorem ce_51 (k : Nat → ClassId) (h m : Nat) (a b adS : Nat → Nat) : (WS k h m a b)[51]? = some (AD h m a b adS 51, gg_ce (AD h m a b adS) (CAk k) u0 51) := rfl
theorem ce_52 (k : Nat → ClassId) (h m : Nat) (a b adS : Nat → Nat) : (WS k h m a b)[52]? = some (AD h m a b adS 52, gg_ce (AD h m a b adS) (CAk k) u0 52) := rfl
theorem ce_53 (k : Nat → ClassId) (h m : Nat) (a b adS : Nat → Nat) : (WS k h m a b)[53]? = some (AD h m a b adS 53, gg_ce (AD h m a b adS) (CAk k) u0 53) := rfl
theorem ce_54 (k : Nat → ClassId) (h m : Nat) (a b adS : Nat → Nat) : (WS k h m a b)[54]? = some (AD h m a b adS 54, gg_ce (AD h m a b adS) (CAk k) u0 54) := rfl
theorem ce_55 (k : Nat → ClassId) (h m : Nat) (a b adS : Nat → Nat) : (WS k h m a b)[55]? = some (AD h m a b adS 55, gg_ce (AD h m a b adS) (CAk k) u0 55) := rfl
theorem ce_56 (k : Nat → ClassId) (h m : Nat) (a b adS : Nat → Nat) : (WS k h m a b)[56]? = some (AD h m a b adS 56, gg_ce (AD h m a b adS) (CAk k) u0 56) := rfl
theorem ce_57 (k : Nat → ClassId) (h m : Nat) (a b adS : Nat → Nat) : (WS k h m a b)[57]? = some (AD h m a b adS 57, gg_ce (AD h m a b adS) (CAk k) u0 57) := rfl
theorem ce_58 (k : Nat → ClassId) (h m : Nat) (a b adS : Nat → Nat) : (WS k h m a b)[58]? = some (AD h m a b adS 58, gg_ce (AD h m a b adS) (CAk k) u0 58) := rfl
theorem ce_59 (k : Nat → ClassId) (h m : Nat) (a b adS : Nat → Nat) : (WS k h m a b)[59]? = some (AD h m a b adS 59, gg_ce (AD h m a b adS) (CAk k) u0 59) := rfl
theorem ce_60 (k : Nat → ClassId) (h m : Nat) (a b adS : Nat → Nat) : (WS k h m a b)[60]? = some (AD h m a b adS 60, gg_ce (AD h m a b adS) (CAk k) u0 60) := rfl
theorem ce_61 (k : Nat → ClassId) (h m : Nat) (a b adS : Nat → Nat) : (WS k h m a b)[61]? = some (AD h m a b adS 61, gg_ce (AD h m a b adS) (CAk k) u0 61) := rfl
theorem ce_62 (k : Nat → ClassId) (h m : Nat) (a b adS : Nat → Nat) : (WS k h m a b)[62]? = some (AD h m a b adS 62, gg_ce (AD h m a b adS) (CAk k) u0 62) := rfl
theorem ce_63 (k : Nat → ClassId) (h m : Nat) (a b adS : Nat → Nat) : (WS k h m a b)[63]? = some (AD h m a b adS 63, gg_ce (AD h m a b adS) (CAk k) u0 63) := rfl
theorem ce_64 (k : Nat → ClassId) (h m : Nat) (a b adS : Nat → Nat) : (WS k h m a b)[64]? = some (AD h m a b adS 64, gg_ce (AD h m a b adS) (CAk k) u0 64) := rfl
theorem ce_18 (k : Nat → ClassId) (h m : Nat) (a b adS : Nat → Nat) : (WS k h m a b)[17]? = some (AD h m a b adS 18, .inl (k 4, 3, .inr (.inr (.inr (.inr (fun i => [some (a 17), some (a 18), some (a 19)].getD i none)))))) := rfl
theorem ce_22 (k : Nat → ClassId) (h m : Nat) (a b adS : Nat → Nat) : (WS k h m a b)[21]? = some (AD h m a b adS 22, .inl (k 4, 3, .inr (.inr (.inr (.inr (fun i => [some (a 21), some (a 22), some (a 23)].getD i none)))))) := rfl
theorem ce_38 (k : Nat → ClassId) (h m : Nat) (a b adS : Nat → Nat) : (WS k h m a b)[37]? = some (AD h m a b adS 38, .inl (k 3, 4, .inr (.inr (.inr (.inr (va_up (va_up (va_up (va_up (fun _ => none) 0 (some (a 37))) 1 (some (a 39))) 2 (some (a 41))) 3 (some (a 43)))))))) := rfl
theorem vq_congr {c : ClassId} {n : Nat} {f g : Nat → Option Nat} (h : ∀ j, j < n → f j = g j) : vp_cell c (n, .inr (.inr (.inr (.inr f)))) = vp_cell c (n, .inr (.inr (.inr (.inr g)))) := by
  rw [vp_cell_q, vp_cell_q]
  unfold arrV
  congr 2
  funext j
  exact congrArg va_rf (h j.val j.isLt)
theorem at_18 (k : Nat → ClassId) (h m : Nat) (a b adS : Nat → Nat) {D : va_G} {H : Heap} (hp : va_at D gg_cls (AD h m a b adS 18, .inl (k 4, 3, .inr (.inr (.inr (.inr (fun i => [some (a 17), some (a 18), some (a 19)].getD i none)))))) H) : va_at D gg_cls (AD h m a b adS 18, gg_ce (AD h m a b adS) (CAk k) u0 18) H := by
  have e : ∀ j, j < 3 → (fun i => [some (a 17), some (a 18), some (a 19)].getD i none) j = some (AD h m a b adS (gg_rf 18 j))
    | 0, _ => rfl
    | 1, _ => rfl
    | 2, _ => rfl
    | j + 3, z => absurd z (by omega)
  have hp : H[AD h m a b adS 18]? = some (vp_cell (CAk k 18) (3, .inr (.inr (.inr (.inr (fun i => [some (a 17), some (a 18), some (a 19)].getD i none)))))) := hp
  rw [vq_congr e] at hp
  exact hp
theorem at_22 (k : Nat → ClassId) (h m : Nat) (a b adS : Nat → Nat) {D : va_G} {H : Heap} (hp : va_at D gg_cls (AD h m a b adS 22, .inl (k 4, 3, .inr (.inr (.inr (.inr (fun i => [some (a 21), some (a 22), some (a 23)].getD i none)))))) H) : va_at D gg_cls (AD h m a b adS 22, gg_ce (AD h m a b adS) (CAk k) u0 22) H := by
  have e : ∀ j, j < 3 → (fun i => [some (a 21), some (a 22), some (a 23)].getD i none) j = some (AD h m a b adS (gg_rf 22 j))
    | 0, _ => rfl
    | 1, _ => rfl
    | 2, _ => rfl
    | j + 3, z => absurd z (by omega)
  have hp : H[AD h m a b adS 22]? = some (vp_cell (CAk k 22) (3, .inr (.inr (.inr (.inr (fun i => [some (a 21), some (a 22), some (a 23)].getD i none)))))) := hp
  rw [vq_congr e] at hp
  exact hp
theorem at_38 (k : Nat → ClassId) (h m : Nat) (a b adS : Nat → Nat) {D : va_G} {H : Heap} (hp : va_at D gg_cls (AD h m a b adS 38, .inl (k 3, 4, .inr (.inr (.inr (.inr (va_up (va_up (va_up (va_up (fun _ => none) 0 (some (a 37))) 1 (some (a 39))) 2 (some (a 41))) 3 (some (a 43)))))))) H) : va_at D gg_cls (AD h m a b adS 38, gg_ce (AD h m a b adS) (CAk k) u0 38) H := by
  have e : ∀ j, j < 4 → (va_up (va_up (va_up (va_up (fun _ => none) 0 (some (a 37))) 1 (some (a 39))) 2 (some (a 41))) 3 (some (a 43))) j = some (AD h m a b adS (gg_rf 38 j))
    | 0, _ => rfl
    | 1, _ => rfl
    | 2, _ => rfl
    | 3, _ => rfl
    | j + 4, z => absurd z (by omega)
  have hp : H[AD h m a b adS 38]? = some (vp_cell (CAk k 38) (4, .inr (.inr (.inr (.inr (va_up (va_up (va_up (va_up (fun _ => none) 0 (some (a 37))) 1 (some (a 39))) 2 (some (a 41))) 3 (some (a 43)))))))) := hp
  rw [vq_congr e] at hp
  exact hp
theorem cell_ok (k : Nat → ClassId) (h m : Nat) (a b adS : Nat → Nat) {D : va_G} {H : Heap} (hP : va_P D gg_cls (WS k h m a b) H) : ∀ t, t < 65 → va_at D gg_cls (AD h m a b adS t, gg_ce (AD h m a b adS) (CAk k) u0 t) H
  | 0, _ => hP _ _ (ce_0 k h m a b adS)
  | 1, _ => hP _ _ (ce_1 k h m a b adS)
  | 2, _ => hP _ _ (ce_2 k h m a b adS)
  | 3, _ => hP _ _ (ce_3 k h m a b adS)
  | 4, _ => hP _ _ (ce_4 k h m a b adS)
  | 5, _ => hP _ _ (ce_5 k h m a b adS)
  | 6, _ => hP _ _ (ce_6 k h m a b adS)
  | 7, _ => hP _ _ (ce_7 k h m a b adS)
  | 8, _ => hP _ _ (ce_8 k h m a b adS)
  | 9, _ => hP _ _ (ce_9 k h m a b adS)
  | 10, _ => hP _ _ (ce_10 k h m a b adS)
  | 11, _ => hP _ _ (ce_11 k h m a b adS)
  | 12, _ => hP _ _ (ce_12 k h m a b adS)
  | 13, _ => hP _ _ (ce_13 k h m a b adS)
  | 14, _ => hP _ _ (ce_14 k h m a b adS)
  | 15, _ => hP _ _ (ce_15 k h m a b adS)
  | 16, _ => hP _ _ (ce_16 k h m a b adS)
  | 17, _ => hP _ _ (ce_17 k h m a b adS)
  | 18, _ => at_18 k h m a b adS (hP _ _ (ce_18 k h m a b adS))
  | 19, _ => hP _ _ (ce_19 k h m a b adS)
  | 20, _ => hP _ _ (ce_20 k h m a b adS)
  | 21, _ => hP _ _ (ce_21 k h m a b adS)
  | 22, _ => at_22 k h m a b adS (hP _ _ (ce_22 k h m a b adS))
  | 23, _ => hP _ _ (ce_23 k h m a b adS)
  | 24, _ => hP _ _ (ce_24 k h m a b adS)
  | 25, _ => hP _ _ (ce_25 k h m a b adS)
  | 26, _ => hP _ _ (ce_26 k h m a b adS)
  | 27, _ => hP _ _ (ce_27 k h m a b adS)
  | 28, _ => hP _ _ (ce_28 k h m a b adS)
  | 29, _ => hP _ _ (ce_29 k h m a b adS)
  | 30, _ => hP _ _ (ce_30 k h m a b adS)
  | 31, _ => hP _ _ (ce_31 k h m a b adS)
  | 32, _ => hP _ _ (ce_32 k h m a b adS)
  | 33, _ => hP _ _ (ce_33 k h m a b adS)
  | 34, _ => hP _ _ (ce_34 k h m a b adS)
  | 35, _ => hP _ _ (ce_35 k h m a b adS)
  | 36, _ => hP _ _ (ce_36 k h m a b adS)
  | 37, _ => hP _ _ (ce_37 k h m a b adS)
  | 38, _ => at_38 k h m a b adS (hP _ _ (ce_38 k h m a b adS))
  | 39, _ => hP _ _ (ce_39 k h m a b adS)
  | 40, _ => hP _ _ (ce_40 k h m a b adS)
  | 41, _ => hP _ _ (ce_41 k h m a b adS)
  | 42, _ => hP _ _ (ce_42 k h m a b adS)
  | 43, _ => hP _ _ (ce_43 k h m a b adS)
  | 44, _ => hP _ _ (ce_44 k h m a b adS)
  | 45, _ => hP _ _ (ce_45 k h m a b adS)
  | 46, _ => hP _ _ (ce_46 k h m a b adS)
  | 47, _ => hP _ _ (ce_47 k h m a b adS)
  | 48, _ => hP _ _ (ce_48 k h m a b adS)
  | 49, _ => hP _ _ (ce_49 k h m a b adS)
  | 50, _ => hP _ _ (ce_50 k h m a b adS)
  | 51, _ => hP _ _ (ce_51 k h m a b adS)
  | 52, _ => hP _ _ (ce_52 k h m a b adS)
  | 53, _ => hP _ _ (ce_53 k h m a b adS)
  | 54, _ => hP _ _ (ce_54 k h m a b adS)
  | 55, _ => hP _ _ (ce_55 k h m a b adS)
  | 56, _ => hP _ _ (ce_56 k h m a b adS)
  | 57, _ => hP _ _ (ce_57 k h m a b adS)
  | 58, _ => hP _ _ (ce_58 k h m a b adS)
  | 59, _ => hP _ _ (ce_59 k h m a b adS)
  | 60, _ => hP _ _ (ce_60 k h m a b adS)
  | 61, _ => hP _ _ (ce_61 k h m a b adS)
  | 62, _ => hP _ _ (ce_62 k h m a b adS)
  | 63, _ => hP _ _ (ce_63 k h m a b adS)
  | 64, _ => hP _ _ (ce_64 k h m a b adS)
  | t + 65, z => absurd z (by omega)
theorem addr_ok (k : Nat → ClassId) (h m : Nat) (a b adS : Nat → Nat) : ∀ t, t < 65 → ∃ e, (WS k h m a b)[PIx t]? = some (AD h m a b adS t, e)
  | 0, _ => ⟨_, ce_0 k h m a b adS⟩
  | 1, _ => ⟨_, ce_1 k h m a b adS⟩
  | 2, _ => ⟨_, ce_2 k h m a b adS⟩
  | 3, _ => ⟨_, ce_3 k h m a b adS⟩
  | 4, _ => ⟨_, ce_4 k h m a b adS⟩
  | 5, _ => ⟨_, ce_5 k h m a b adS⟩
  | 6, _ => ⟨_, ce_6 k h m a b adS⟩
  | 7, _ => ⟨_, ce_7 k h m a b adS⟩
  | 8, _ => ⟨_, ce_8 k h m a b adS⟩
  | 9, _ => ⟨_, ce_9 k h m a b adS⟩
  | 10, _ => ⟨_, ce_10 k h m a b adS⟩
  | 11, _ => ⟨_, ce_11 k h m a b adS⟩
  | 12, _ => ⟨_, ce_12 k h m a b adS⟩
  | 13, _ => ⟨_, ce_13 k h m a b adS⟩
  | 14, _ => ⟨_, ce_14 k h m a b adS⟩
  | 15, _ => ⟨_, ce_15 k h m a b adS⟩
  | 16, _ => ⟨_, ce_16 k h m a b adS⟩
  | 17, _ => ⟨_, ce_17 k h m a b adS⟩
  | 18, _ => ⟨_, ce_18 k h m a b adS⟩
  | 19, _ => ⟨_, ce_19 k h m a b adS⟩
  | 20, _ => ⟨_, ce_20 k h m a b adS⟩
  | 21, _ => ⟨_, ce_21 k h m a b adS⟩
  | 22, _ => ⟨_, ce_22 k h m a b adS⟩
  | 23, _ => ⟨_, ce_23 k h m a b adS⟩
  | 24, _ => ⟨_, ce_24 k h m a b adS⟩
  | 25, _ => ⟨_, ce_25 k h m a b adS⟩
  | 26, _ => ⟨_, ce_26 k h m a b adS⟩
  | 27, _ => ⟨_, ce_27 k h m a b adS⟩
  | 28, _ => ⟨_, ce_28 k h m a b adS⟩
  | 29, _ => ⟨_, ce_29 k h m a b adS⟩
  | 30, _ => ⟨_, ce_30 k h m a b adS⟩
  | 31, _ => ⟨_, ce_31 k h m a b adS⟩
  | 32, _ => ⟨_, ce_32 k h m a b adS⟩
  | 33, _ => ⟨_, ce_33 k h m a b adS⟩
  | 34, _ => ⟨_, ce_34 k h m a b adS⟩
  | 35, _ => ⟨_, ce_35 k h m a b adS⟩
  | 36, _ => ⟨_, ce_36 k h m a b adS⟩
  | 37, _ => ⟨_, ce_37 k h m a b adS⟩
  | 38, _ => ⟨_, ce_38 k h m a b adS⟩
  | 39, _ => ⟨_, ce_39 k h m a b adS⟩
  | 40, _ => ⟨_, ce_40 k h m a b adS⟩
  | 41, _ => ⟨_, ce_41 k h m a b adS⟩
  | 42, _ => ⟨_, ce_42 k h m a b adS⟩
  | 43, _ => ⟨_, ce_43 k h m a b adS⟩
  | 44, _ => ⟨_, ce_44 k h m a b adS⟩
  | 45, _ => ⟨_, ce_45 k h m a b adS⟩
  | 46, _ => ⟨_, ce_46 k h m a b adS⟩
  | 47, _ => ⟨_, ce_47 k h m a b adS⟩
  | 48, _ => ⟨_, ce_48 k h m a b adS⟩
  | 49, _ => ⟨_, ce_49 k h m a b adS⟩
  | 50, _ => ⟨_, ce_50 k h m a b adS⟩
  | 51, _ => ⟨_, ce_51 k h m a b adS⟩
  | 52, _ => ⟨_, ce_52 k h m a b adS⟩
  | 53, _ => ⟨_, ce_53 k h m a b adS⟩
  | 54, _ => ⟨_, ce_54 k h m a b adS⟩
  | 55, _ => ⟨_, ce_55 k h m a b adS⟩
  | 56, _ => ⟨_, ce_56 k h m a b adS⟩
  | 57, _ => ⟨_, ce_57 k h m a b adS⟩
  | 58, _ => ⟨_, ce_58 k h m a b adS⟩
  | 59, _ => ⟨_, ce_59 k h m a b adS⟩
  | 60, _ => ⟨_, ce_60 k h m a b adS⟩
  | 61, _ => ⟨_, ce_61 k h m a b adS⟩
  | 62, _ => ⟨_, ce_62 k h m a b adS⟩
  | 63, _ => ⟨_, ce_63 k h m a b adS⟩
  | 64, _ => ⟨_, ce_64 k h m a b adS⟩
  | t + 65, z => absurd z (by omega)
theorem shape_P (k : Nat → ClassId) (h m : Nat) (a b adS : Nat → Nat) {D : va_G} {H : Heap} (hP : va_P D gg_cls (WS k h m a b) H) : va_P D gg_cls (gg_ws (AD h m a b adS) (CAk k) u0) H := fun t q hq => by
  obtain ⟨ht, rfl⟩ := gg_ws_of hq
  exact cell_ok k h m a b adS hP t ht
theorem shape_I (k : Nat → ClassId) (h m : Nat) (a b adS : Nat → Nat) {A : Nat → Prop} (hD : va_D A (WS k h m a b)) (i j : Nat) (hi : i < 65) (hj : j < 65) (e : AD h m a b adS i = AD h m a b adS j) : i = j := by
  obtain ⟨x, hx⟩ := addr_ok k h m a b adS i hi
  obtain ⟨y, hy⟩ := addr_ok k h m a b adS j hj
  have := hD.1 _ _ _ _ hx hy e
  rw [← SG_PI i hi, ← SG_PI j hj, this]
theorem shape_A (k : Nat → ClassId) (h m : Nat) (a b adS : Nat → Nat) {A : Nat → Prop} (hD : va_D A (WS k h m a b)) (i : Nat) (hi : i < 65) : A (AD h m a b adS i) := by
  obtain ⟨x, hx⟩ := addr_ok k h m a b adS i hi
  exact hD.2 _ _ hx
theorem kd_5 : ∀ t, t < 65 → 20 ≤ gg_kd t → gg_kd t = 20 ∨ gg_kd t = 21 ∨ gg_kd t = 22 ∨ gg_kd t = 23 ∨ gg_kd t = 24 := by decide +kernel
theorem shape_K {D : va_G} {k : Nat → ClassId} {s : State} (hB : ci_B D k s) : gg_K D (CAk k) s := by
  refine ⟨hB.1.1, fun t ht hk => ?_⟩
  unfold CAk
  rcases kd_5 t ht hk with e | e | e | e | e <;> rw [e]
  · exact hB.1.2 0 _ rfl
  · exact hB.1.2 1 _ rfl
  · exact hB.1.2 2 _ rfl
  · exact hB.1.2 3 _ rfl
  · exact hB.1.2 4 _ rfl
