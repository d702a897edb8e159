/-- what the tables say of arrays of arrays (the printed names below want these two rows; mine) -/
def va_AOA (ty : FieldType) (U : State) : Prop := (Cond.arrayOver (.array ty)).before #[] U = true
theorem va_AOA.use {ty : FieldType} {A : Array Value} {U : State} (h : va_AOA ty U) : (Cond.arrayOver (.array ty)).before A U = true := h
/-! ===== BEGIN words of one list among another's, by their places ===== -/
theorem goodIn_r {big : List Cond} (ws : List Cond) (ps : List Nat) (hp : ws = ps.filterMap (fun i => big[i]?)) (h : ws.all goodWord = true) : GoodIn big ws := by
  intro w hw
  have h1 := List.all_eq_true.mp h w hw
  rw [hp] at hw
  obtain ⟨i, -, hi⟩ := List.mem_filterMap.mp hw
  have hm : w ∈ big := by first | exact List.mem_of_getElem? hi | exact List.getElem?_mem hi
  exact ⟨hm, good_of_word h1⟩
theorem goodIn_app {big a b : List Cond} (ha : GoodIn big a) (hb : GoodIn big b) : GoodIn big (a ++ b) := fun w h => (List.mem_append.mp h).elim (ha w) (hb w)
theorem goodIn_ca {big a b : List Cond} {c : Cond} (ha : GoodIn big (c :: a)) (hb : GoodIn big b) : GoodIn big (c :: (a ++ b)) := fun w h => (List.mem_cons.mp h).elim (fun e => ha w (List.mem_cons.mpr (Or.inl e))) (fun h => (List.mem_append.mp h).elim (fun h => ha w (List.mem_cons.mpr (Or.inr h))) (hb w))
theorem goodIn_sub {big ws : List Cond} (hm : ∀ w ∈ ws, w ∈ big) (h : ws.all goodWord = true) : GoodIn big ws := fun w hw => ⟨hm w hw, good_of_word (List.all_eq_true.mp h w hw)⟩
/-! ===== END ===== -/

/-! ===== BEGIN new T[n][m]: the outer array a place, the inner ones among the pooled ===== -/
/-- f, but v at every address of l -/
def vr_up {α : Type} (f : Nat → α) (l : List Nat) (v : α) : Nat → α := fun a => if a ∈ l then v else f a
theorem vr_up_in {α : Type} {f : Nat → α} {l : List Nat} {v : α} {a : Nat} (h : a ∈ l) : vr_up f l v a = v := if_pos h
theorem vr_up_ne {α : Type} {f : Nat → α} {l : List Nat} {v : α} {a : Nat} (h : a ∉ l) : vr_up f l v a = f a := if_neg h
theorem vr_rows {L l : List Nat} {f : Nat → va_E} {e : va_E} (h : ∀ a, a ∈ l → a ∉ L) : va_pl L f ++ l.map (fun a => (a, e)) = va_pl (L ++ l) (vr_up f l e) := by
  unfold va_pl
  rw [List.map_append]
  congr 1
  · apply List.map_congr_left
    intro a ha
    rw [vr_up_ne (fun q => h a q ha)]
  · apply List.map_congr_left
    intro a ha
    rw [vr_up_in ha]
theorem vr_lay {X rows : va_W} {x : Nat × va_E} {pl : va_W} {D : va_G} {cl : List vw_C} {H : Heap} (hP : va_P D cl (((X ++ pl) ++ [x]) ++ rows) H) : va_P D cl ((X ++ [x]) ++ (pl ++ rows)) H := by
  rw [List.append_assoc (X ++ pl)] at hP
  have h := va_P.swap hP
  rw [← List.append_assoc X] at h
  have h2 := va_P.swap h
  rw [List.append_assoc (X ++ [x])] at h2
  exact h2
theorem vr_layD {X rows : va_W} {x : Nat × va_E} {pl : va_W} {A : Nat → Prop} (hD : va_D A (((X ++ pl) ++ [x]) ++ rows)) : va_D A ((X ++ [x]) ++ (pl ++ rows)) := by
  rw [List.append_assoc (X ++ pl)] at hD
  have h := va_D.swap hD
  rw [← List.append_assoc X] at h
  have h2 := va_D.swap h
  rw [List.append_assoc (X ++ [x])] at h2
  exact h2
theorem vr_outer (c : ClassId) (N h0 : Nat) : ∀ i : Nat, Jvm.Free.Multi.outerC c N h0 i = arrV c N (fun j => va_rf (if j < i then some (h0 + 1 + j) else none))
  | 0 => by
    show ({ cls := c, slots := Array.replicate N .null, vm := .none } : Cell) = _
    rw [arrV_new]
    refine congrArg (arrV c N) (funext fun j => ?_)
    simp [va_rf]
  | i + 1 => by
    show (Jvm.Free.Multi.outerC c N h0 i).setSlot i (.ref (h0 + 1 + i)) = _
    rw [vr_outer c N h0 i, arrV_store]
    refine congrArg (arrV c N) (funext fun j => ?_)
    by_cases e : j = i
    · subst e
      simp [updV, va_rf]
    · by_cases h : j < i
      · simp [updV, e, h, Nat.lt_succ_of_lt h]
      · simp [updV, e, h, show ¬ j < i + 1 by omega]
section VGM
variable {p : Program} {l : Launch} {e : Env} {R : Room} {s : State} {m : MethodId} {args : Array Value} {below : List Frame} {meth : Method} {c : Code} {H : Heap} {locs : List Loc} {cells slots : Nat} {Q : State → Prop}
variable {cc : ByteArray} {pc : Nat} {ls : Array Slot} {rest : List Value} {D : va_G} {cl : List vw_C} {A : Nat → Prop} {a : Nat} {tys : List (ClassId × FieldType)} {ws : va_W} {H0 : Heap}
theorem va_mna {X : va_W} {L : List Nat} {f : Nat → va_E} {cc : ByteArray} (hexec : p.tables.exec = Jvm.exec) (hb : c.code = cc) {own : String} {index : Nat} {ty : FieldType} {cy : ClassId} (hown : s.vm.findClass own = some m.cls) (hclink : (Cond.classLink own index ("[" ++ (FieldType.array ty).toString)).before args s = true) (hover : va_AOA ty s) (harr : (Cond.arrayClass ty).before args s = true) (hcy : s.vm.findClass (FieldType.array ty).toString = some cy)
    (hK : va_K D cl tys s) (hP : va_P D cl (X ++ va_pl L f) H) (hD : va_D A (X ++ va_pl L f)) (hS : va_S A H0 H locs) (hA : ∀ q, H0.size ≤ q → A q) {n k : Int32} {N' K' : Nat} {z : vp_A} (hn : ¬ n < 0) (hk : ¬ k < 0) (hN : n.toNatClampNeg = N') (hM : k.toNatClampNeg = K')
    (hb1 : N' * 4 ≤ 536870912) (hb2 : K' * componentBytes ty ≤ 536870912) (hb3 : K' ≤ 536870912) (hdf : fits ty (defaultValue ty) = true) (hdd : (defaultValue ty).isDefault = true) (hcells : cells + (1 + N') ≤ R.cells) (hslots : slots + (N' + N' * K') ≤ R.slots) (hz : ∀ c : ClassId, Jvm.Free.Multi.innerC c K' (defaultValue ty) = vp_cell c z) (hdg : decode cc pc = .ok (.multianewarray index 2, 4))
    (kk : ∀ (q : Nat) (r : Nat → Nat) (cA : ClassId) (H1 : Heap), (∀ i j : Nat, i < N' → j < N' → r i = r j → i = j) → (∀ i : Nat, i < N' → r i ∉ L) → va_K D cl (tys ++ [(cA, .array ty)]) s →
      va_P D cl ((X ++ [(q, .inl (cA, N', .inr (.inr (.inr (.inr (fun i => if i < N' then some (r i) else none))))))]) ++ va_pl (L ++ (List.range N').map r) (vr_up f ((List.range N').map r) (.inl (cy, z)))) H1 → va_D A ((X ++ [(q, .inl (cA, N', .inr (.inr (.inr (.inr (fun i => if i < N' then some (r i) else none))))))]) ++ va_pl (L ++ (List.range N').map r) (vr_up f ((List.range N').map r) (.inl (cy, z)))) → va_S A H0 H1 locs →
      W p l e R s m args below meth c H1 locs (cells + 1 + N') (slots + N' + N' * K') Q (F0 m (pc + 4) ls (.ref q :: rest))) : W p l e R s m args below meth c H locs cells slots Q (F0 m pc ls (.int k :: .int n :: rest)) := by
  subst hN
  subst hM
  intro T hT Xs
  obtain ⟨vm₁, cA, comp, -, fA, fC, hO, -, X', step⟩ := Xs.multianewarray2F hexec hown hclink (va_AOA.use hover) harr (g := F0 m pc ls (.int k :: .int n :: rest)) rfl (by rw [hb]; exact hdg) rfl hn hk hb1 hb2 hb3 hdf hdd hcells hslots
  have ec : some cy = some comp := hcy.symm.trans fC
  cases ec
  generalize hF : Jvm.Free.Multi.fill (T.setVm vm₁) cA cy n.toNatClampNeg k.toNatClampNeg (defaultValue ty) n.toNatClampNeg = F at X' step
  have hTh : (T.setVm vm₁).heap = H := hT
  obtain ⟨f1, f2, -, -⟩ := Jvm.Free.Multi.fill_facts (T.setVm vm₁) cA cy n.toNatClampNeg k.toNatClampNeg (defaultValue ty) n.toNatClampNeg
  rw [hF, hTh] at f1 f2
  have hold : ∀ x : Nat, x < H.size → F.heap[x]? = H[x]? := fun x hx => by
    have := Jvm.Free.Multi.fill_old (T.setVm vm₁) cA cy n.toNatClampNeg k.toNatClampNeg (defaultValue ty) (a := x) (by rw [hTh]; exact hx) n.toNatClampNeg
    rw [hF, hTh] at this
    exact this
  have hrow : ∀ j : Nat, j < n.toNatClampNeg → F.heap[H.size + 1 + j]? = some (vp_cell cy z) := fun j hj => by
    have := Jvm.Free.Multi.fill_inner (T.setVm vm₁) cA cy n.toNatClampNeg k.toNatClampNeg (defaultValue ty) n.toNatClampNeg j hj
    rw [hF, hTh, hz] at this
    exact this
  have hout : Jvm.Free.Multi.outerC cA n.toNatClampNeg H.size n.toNatClampNeg = vp_cell cA (n.toNatClampNeg, .inr (.inr (.inr (.inr (fun i => if i < n.toNatClampNeg then some (H.size + 1 + i) else none))))) := by
    rw [vp_cell_q]
    exact vr_outer cA n.toNatClampNeg H.size n.toNatClampNeg
  rw [hout] at f2
  have hlt : ∀ a, a ∈ L → a < H.size := fun a ha => by
    obtain ⟨k9, hk9⟩ := va_pl_get (X := X) (f := f) ha
    exact (hP k9 _ hk9).lt
  have hnl : ∀ i : Nat, i < n.toNatClampNeg → H.size + 1 + i ∉ L := fun i _ h => by
    have := hlt _ h
    omega
  have hnm : ∀ a, a ∈ (List.range n.toNatClampNeg).map (fun i => H.size + 1 + i) → a ∉ L := fun a ha h => by
    obtain ⟨i, -, rfl⟩ := List.mem_map.mp ha
    have := hlt _ h
    omega
  have hP0 : va_P D cl (X ++ va_pl L f) F.heap := hP.kept (fun k9 x hx => hold x.1 ((hP k9 x hx).lt))
  have hP1 : va_P D cl ((X ++ va_pl L f) ++ [(H.size, .inl (cA, n.toNatClampNeg, .inr (.inr (.inr (.inr (fun i => if i < n.toNatClampNeg then some (H.size + 1 + i) else none))))))]) F.heap := hP0.app (fun k9 x hx => by
    have h0 : k9 < 1 := (List.getElem?_eq_some_iff.mp hx).1
    rw [show k9 = 0 by omega] at hx
    cases hx
    exact f2)
  have hP2 : va_P D cl (((X ++ va_pl L f) ++ [(H.size, .inl (cA, n.toNatClampNeg, .inr (.inr (.inr (.inr (fun i => if i < n.toNatClampNeg then some (H.size + 1 + i) else none))))))]) ++ ((List.range n.toNatClampNeg).map (fun i => H.size + 1 + i)).map (fun a => (a, .inl (cy, z)))) F.heap := hP1.app (fun k9 x hx => by
    obtain ⟨a, ha, rfl⟩ := List.mem_map.mp (List.mem_of_getElem? hx)
    obtain ⟨i, hi, rfl⟩ := List.mem_map.mp ha
    exact hrow i (List.mem_range.mp hi))
  have hD2 : va_D A (((X ++ va_pl L f) ++ [(H.size, .inl (cA, n.toNatClampNeg, .inr (.inr (.inr (.inr (fun i => if i < n.toNatClampNeg then some (H.size + 1 + i) else none))))))]) ++ ((List.range n.toNatClampNeg).map (fun i => H.size + 1 + i)).map (fun a => (a, .inl (cy, z)))) := by
    have hD1 := hD.push (e := .inl (cA, n.toNatClampNeg, .inr (.inr (.inr (.inr (fun i => if i < n.toNatClampNeg then some (H.size + 1 + i) else none)))))) hP rfl (hA _ hS.1)
    generalize hW1 : (X ++ va_pl L f) ++ [(H.size, .inl (cA, n.toNatClampNeg, .inr (.inr (.inr (.inr (fun i => if i < n.toNatClampNeg then some (H.size + 1 + i) else none))))))] = W1 at hD1 hP1 ⊢
    have hle : ∀ (k9 : Nat) (x : Nat × va_E), W1[k9]? = some x → x.1 ≤ H.size := fun k9 x hx => by
      rw [← hW1] at hx
      by_cases hl : k9 < (X ++ va_pl L f).length
      · rw [List.getElem?_append_left hl] at hx
        exact Nat.le_of_lt ((hP k9 x hx).lt)
      · rw [List.getElem?_append_right (by omega)] at hx
        have h0 : k9 - (X ++ va_pl L f).length < 1 := (List.getElem?_eq_some_iff.mp hx).1
        rw [show k9 - (X ++ va_pl L f).length = 0 by omega] at hx
        cases hx
        exact Nat.le_refl _
    have hr : ∀ (k9 : Nat) (x : Nat × va_E), (((List.range n.toNatClampNeg).map (fun i => H.size + 1 + i)).map (fun a => ((a, .inl (cy, z)) : Nat × va_E)))[k9]? = some x → x.1 = H.size + 1 + k9 := fun k9 x hx => by
      rw [List.getElem?_map, List.getElem?_map] at hx
      by_cases h9 : k9 < n.toNatClampNeg
      · rw [List.getElem?_range h9] at hx
        cases hx
        rfl
      · have hn0 : (List.range n.toNatClampNeg)[k9]? = none := List.getElem?_eq_none (by rw [List.length_range]; omega)
        rw [hn0] at hx
        cases hx
    refine ⟨fun i j x y hi hj hxy => ?_, fun k9 x hx => ?_⟩
    · by_cases h1 : i < W1.length <;> by_cases h2 : j < W1.length
      · rw [List.getElem?_append_left h1] at hi
        rw [List.getElem?_append_left h2] at hj
        exact hD1.1 i j x y hi hj hxy
      · rw [List.getElem?_append_left h1] at hi
        rw [List.getElem?_append_right (by omega)] at hj
        have := hle _ _ hi
        have := hr _ _ hj
        omega
      · rw [List.getElem?_append_right (by omega)] at hi
        rw [List.getElem?_append_left h2] at hj
        have := hle _ _ hj
        have := hr _ _ hi
        omega
      · rw [List.getElem?_append_right (by omega)] at hi hj
        have := hr _ _ hi
        have := hr _ _ hj
        omega
    · by_cases h1 : k9 < W1.length
      · rw [List.getElem?_append_left h1] at hx
        exact hD1.2 k9 x hx
      · rw [List.getElem?_append_right (by omega)] at hx
        have := hr _ _ hx
        exact hA _ (by have := hS.1; omega)
  have hAr : ArrOfT s cA (.array ty) := fun N9 z9 => by
    obtain ⟨-, k9, hk9, cm9, hkk9⟩ := (hO 0 0 0).1
    exact ⟨(fun q hq => by cases hq), k9, hk9, cm9, hkk9⟩
  have hK2 : va_K D cl (tys ++ [(cA, .array ty)]) s := ⟨hK.1, fun k9 x hx => by
    by_cases hl : k9 < tys.length
    · rw [List.getElem?_append_left hl] at hx
      exact hK.2 k9 x hx
    · rw [List.getElem?_append_right (by omega)] at hx
      have h0 : k9 - tys.length < 1 := (List.getElem?_eq_some_iff.mp hx).1
      rw [show k9 - tys.length = 0 by omega] at hx
      cases hx
      exact ⟨hAr, fA⟩⟩
  obtain ⟨t, a1, b1⟩ := kk H.size (fun i => H.size + 1 + i) cA F.heap (fun i j _ _ h => by have h9 : H.size + 1 + i = H.size + 1 + j := h; omega) hnl hK2 (by rw [← vr_rows hnm]; exact vr_lay hP2) (by rw [← vr_rows hnm]; exact vr_layD hD2) ⟨by rw [f1]; have := hS.1; omega, fun x h1 h2 => (hold x (Nat.lt_of_lt_of_le h1 hS.1)).trans (hS.2.1 x h1 h2), hS.2.2⟩ F rfl X'
  refine ⟨t, step t ?_, b1⟩
  have e : T.heap.size = H.size := by rw [hT]
  rw [e]
  exact a1
end VGM
/-! ===== END ===== -/

/-! ===== BEGIN printed: names, fields, word lists, decode rows ===== -/
def RX0 : String := "ColdMotor$Ahead"
def TX0 : u_T := fun k => match k with
  | _ => ("ColdMotor$Ahead", "sixteenths", "[I", true)
def tyX0 : Nat → FieldType := fun k => match k with
  | _ => .array .int
abbrev wsX00 : List Cond := u_ws RX0 TX0 1
theorem nmX0 : ∀ a, a < 1 → ∀ b, b < 1 → a ≠ b → (TX0 a).2.1 ≠ (TX0 b).2.1 := by decide +kernel
theorem tyX0_ok : ∀ k, k < 1 → parseFieldDescriptor (TX0 k).2.2.1 = some (tyX0 k) := by decide +kernel
abbrev cX0_init : ByteArray := prog_2_method_1_code
def yX0_init : MethodName := ⟨RX0, "<init>", "()V"⟩
abbrev cX0_weightOf : ByteArray := prog_2_method_2_code
def yX0_weightOf : MethodName := ⟨RX0, "weightOf", "(II)I"⟩
abbrev cX0_together : ByteArray := prog_2_method_3_code
def yX0_together : MethodName := ⟨RX0, "together", "()I"⟩
def RX1 : String := "ColdMotor$Belief"
def TX1 : u_T := fun k => match k with
  | 0 => ("ColdMotor$Belief", "states", "[J", true)
  | 1 => ("ColdMotor$Belief", "weights", "[I", true)
  | 2 => ("ColdMotor$Belief", "bySign", "[[I", true)
  | 3 => ("ColdMotor$Belief", "weightBySign", "[[I", true)
  | 4 => ("ColdMotor$Belief", "bestAct", "[I", true)
  | 5 => ("ColdMotor$Belief", "bestWeight", "[I", true)
  | 6 => ("ColdMotor$Belief", "choice", "[I", true)
  | 7 => ("ColdMotor$Belief", "state", "LColdMotor$State;", true)
  | 8 => ("ColdMotor$Belief", "known", "Z", false)
  | 9 => ("ColdMotor$Belief", "left", "I", false)
  | _ => ("ColdMotor$Belief", "total", "I", false)
def tyX1 : Nat → FieldType := fun k => match k with
  | 0 => .array .long
  | 1 => .array .int
  | 2 => .array (.array .int)
  | 3 => .array (.array .int)
  | 4 => .array .int
  | 5 => .array .int
  | 6 => .array .int
  | 7 => .object "ColdMotor$State"
  | 8 => .boolean
  | 9 => .int
  | _ => .int
abbrev wsX10 : List Cond := u_ws RX1 TX1 11
theorem nmX1 : ∀ a, a < 11 → ∀ b, b < 11 → a ≠ b → (TX1 a).2.1 ≠ (TX1 b).2.1 := by decide +kernel
theorem tyX1_ok : ∀ k, k < 11 → parseFieldDescriptor (TX1 k).2.2.1 = some (tyX1 k) := by decide +kernel
abbrev cX1_init : ByteArray := prog_3_method_1_code
def yX1_init : MethodName := ⟨RX1, "<init>", "()V"⟩
abbrev cX1_learn : ByteArray := prog_3_method_2_code
def yX1_learn : MethodName := ⟨RX1, "learn", "(LColdMotor$Motor;LColdMotor$Log;LColdMotor$Ahead;)V"⟩
abbrev cX1_weightWith : ByteArray := prog_3_method_3_code
def yX1_weightWith : MethodName := ⟨RX1, "weightWith", "(I)I"⟩
abbrev cX1_heaviestOf : ByteArray := prog_3_method_4_code
def yX1_heaviestOf : MethodName := ⟨RX1, "heaviestOf", "(I)I"⟩
abbrev cX1_part : ByteArray := prog_3_method_5_code
def yX1_part : MethodName := ⟨RX1, "part", "(LColdMotor$Motor;III)V"⟩
abbrev cX1_weightRunning : ByteArray := prog_3_method_6_code
def yX1_weightRunning : MethodName := ⟨RX1, "weightRunning", "(LColdMotor$Motor;IIII)I"⟩
def RX2 : String := "ColdMotor$Log"
def TX2 : u_T := fun k => match k with
  | 0 => ("ColdMotor$Log", "acts", "[I", true)
  | 1 => ("ColdMotor$Log", "signs", "[I", true)
  | _ => ("ColdMotor$Log", "size", "I", false)
def tyX2 : Nat → FieldType := fun k => match k with
  | 0 => .array .int
  | 1 => .array .int
  | _ => .int
abbrev wsX20 : List Cond := u_ws RX2 TX2 3
theorem nmX2 : ∀ a, a < 3 → ∀ b, b < 3 → a ≠ b → (TX2 a).2.1 ≠ (TX2 b).2.1 := by decide +kernel
theorem tyX2_ok : ∀ k, k < 3 → parseFieldDescriptor (TX2 k).2.2.1 = some (tyX2 k) := by decide +kernel
abbrev cX2_init : ByteArray := prog_4_method_1_code
def yX2_init : MethodName := ⟨RX2, "<init>", "()V"⟩
abbrev cX2_takes : ByteArray := prog_4_method_2_code
def yX2_takes : MethodName := ⟨RX2, "takes", "(II)Z"⟩
abbrev cX2_actAt : ByteArray := prog_4_method_3_code
def yX2_actAt : MethodName := ⟨RX2, "actAt", "(I)I"⟩
abbrev cX2_signAt : ByteArray := prog_4_method_4_code
def yX2_signAt : MethodName := ⟨RX2, "signAt", "(I)I"⟩
def RX3 : String := "ColdMotor$Mornings"
def TX3 : u_T := fun k => match k with
  | 0 => ("ColdMotor$Mornings", "ages", "[I", true)
  | 1 => ("ColdMotor$Mornings", "colds", "[I", true)
  | 2 => ("ColdMotor$Mornings", "turns", "[I", true)
  | 3 => ("ColdMotor$Mornings", "law", "[I", true)
  | 4 => ("ColdMotor$Mornings", "lawKnown", "Z", false)
  | _ => ("ColdMotor$Mornings", "size", "I", false)
def tyX3 : Nat → FieldType := fun k => match k with
  | 0 => .array .int
  | 1 => .array .int
  | 2 => .array .int
  | 3 => .array .int
  | 4 => .boolean
  | _ => .int
abbrev wsX30 : List Cond := u_ws RX3 TX3 6
theorem nmX3 : ∀ a, a < 6 → ∀ b, b < 6 → a ≠ b → (TX3 a).2.1 ≠ (TX3 b).2.1 := by decide +kernel
theorem tyX3_ok : ∀ k, k < 6 → parseFieldDescriptor (TX3 k).2.2.1 = some (tyX3 k) := by decide +kernel
abbrev cX3_init : ByteArray := prog_5_method_1_code
def yX3_init : MethodName := ⟨RX3, "<init>", "()V"⟩
abbrev cX3_takes : ByteArray := prog_5_method_2_code
def yX3_takes : MethodName := ⟨RX3, "takes", "(III)Z"⟩
abbrev cX3_lawSays : ByteArray := prog_5_method_3_code
def yX3_lawSays : MethodName := ⟨RX3, "lawSays", "(IIIII)I"⟩
abbrev cX3_offBy : ByteArray := prog_5_method_4_code
def yX3_offBy : MethodName := ⟨RX3, "offBy", "(III)I"⟩
abbrev cX3_turnsTogether : ByteArray := prog_5_method_5_code
def yX3_turnsTogether : MethodName := ⟨RX3, "turnsTogether", "()I"⟩
abbrev cX3_findLaw : ByteArray := prog_5_method_6_code
def yX3_findLaw : MethodName := ⟨RX3, "findLaw", "()V"⟩
abbrev cX3_takeIfBetter : ByteArray := prog_5_method_7_code
def yX3_takeIfBetter : MethodName := ⟨RX3, "takeIfBetter", "(III)V"⟩
def RX4 : String := "ColdMotor$Motor"
def TX4 : u_T := fun k => match k with
  | 0 => ("ColdMotor$Motor", "values", "[I", true)
  | _ => ("ColdMotor$Motor", "fault", "I", false)
def tyX4 : Nat → FieldType := fun k => match k with
  | 0 => .array .int
  | _ => .int
abbrev wsX40 : List Cond := u_ws RX4 TX4 2
theorem nmX4 : ∀ a, a < 2 → ∀ b, b < 2 → a ≠ b → (TX4 a).2.1 ≠ (TX4 b).2.1 := by decide +kernel
theorem tyX4_ok : ∀ k, k < 2 → parseFieldDescriptor (TX4 k).2.2.1 = some (tyX4 k) := by decide +kernel
abbrev cX4_init : ByteArray := prog_6_method_1_code
def yX4_init : MethodName := ⟨RX4, "<init>", "()V"⟩
abbrev cX4_learn : ByteArray := prog_6_method_2_code
def yX4_learn : MethodName := ⟨RX4, "learn", "(LColdMotor$Text;)V"⟩
abbrev cX4_reset : ByteArray := prog_6_method_3_code
def yX4_reset : MethodName := ⟨RX4, "reset", "()V"⟩
abbrev cX4_faultOf : ByteArray := prog_6_method_4_code
def yX4_faultOf : MethodName := ⟨RX4, "faultOf", "(LColdMotor$Text;)I"⟩
abbrev cX4_qualityOf : ByteArray := prog_6_method_5_code
def yX4_qualityOf : MethodName := ⟨RX4, "qualityOf", "(I)I"⟩
def RX5 : String := "ColdMotor$Plan"
def TX5 : u_T := fun k => match k with
  | 0 => ("ColdMotor$Plan", "acts", "[I", true)
  | 1 => ("ColdMotor$Plan", "size", "I", false)
  | _ => ("ColdMotor$Plan", "fault", "I", false)
def tyX5 : Nat → FieldType := fun k => match k with
  | 0 => .array .int
  | 1 => .int
  | _ => .int
abbrev wsX50 : List Cond := u_ws RX5 TX5 3
theorem nmX5 : ∀ a, a < 3 → ∀ b, b < 3 → a ≠ b → (TX5 a).2.1 ≠ (TX5 b).2.1 := by decide +kernel
theorem tyX5_ok : ∀ k, k < 3 → parseFieldDescriptor (TX5 k).2.2.1 = some (tyX5 k) := by decide +kernel
abbrev cX5_init : ByteArray := prog_7_method_1_code
def yX5_init : MethodName := ⟨RX5, "<init>", "()V"⟩
abbrev cX5_learn : ByteArray := prog_7_method_2_code
def yX5_learn : MethodName := ⟨RX5, "learn", "(LColdMotor$Text;)V"⟩
abbrev cX5_actAt : ByteArray := prog_7_method_3_code
def yX5_actAt : MethodName := ⟨RX5, "actAt", "(I)I"⟩
abbrev cX5_faultOf : ByteArray := prog_7_method_4_code
def yX5_faultOf : MethodName := ⟨RX5, "faultOf", "(LColdMotor$Text;)I"⟩
abbrev cX5_add : ByteArray := prog_7_method_5_code
def yX5_add : MethodName := ⟨RX5, "add", "(II)V"⟩
def RX6 : String := "ColdMotor$Sheet"
def TX6 : u_T := fun k => match k with
  | 0 => ("ColdMotor$Sheet", "items", "[I", true)
  | 1 => ("ColdMotor$Sheet", "form", "I", false)
  | _ => ("ColdMotor$Sheet", "size", "I", false)
def tyX6 : Nat → FieldType := fun k => match k with
  | 0 => .array .int
  | 1 => .int
  | _ => .int
abbrev wsX60 : List Cond := u_ws RX6 TX6 3
theorem nmX6 : ∀ a, a < 3 → ∀ b, b < 3 → a ≠ b → (TX6 a).2.1 ≠ (TX6 b).2.1 := by decide +kernel
theorem tyX6_ok : ∀ k, k < 3 → parseFieldDescriptor (TX6 k).2.2.1 = some (tyX6 k) := by decide +kernel
abbrev cX6_init : ByteArray := prog_8_method_1_code
def yX6_init : MethodName := ⟨RX6, "<init>", "()V"⟩
abbrev cX6_isLost : ByteArray := prog_8_method_2_code
def yX6_isLost : MethodName := ⟨RX6, "isLost", "()Z"⟩
abbrev cX6_lay : ByteArray := prog_8_method_3_code
def yX6_lay : MethodName := ⟨RX6, "lay", "(II)V"⟩
abbrev cX6_wrongWith : ByteArray := prog_8_method_4_code
def yX6_wrongWith : MethodName := ⟨RX6, "wrongWith", "(II)I"⟩
abbrev cX6_holds : ByteArray := prog_8_method_5_code
def yX6_holds : MethodName := ⟨RX6, "holds", "(II)Z"⟩
abbrev cX6_itemAt : ByteArray := prog_8_method_6_code
def yX6_itemAt : MethodName := ⟨RX6, "itemAt", "(I)I"⟩
abbrev cX6_keep : ByteArray := prog_8_method_7_code
def yX6_keep : MethodName := ⟨RX6, "keep", "(II)V"⟩
def RX7 : String := "ColdMotor$State"
def TX7 : u_T := fun k => match k with
  | 0 => ("ColdMotor$State", "battery", "I", false)
  | 1 => ("ColdMotor$State", "light", "I", false)
  | 2 => ("ColdMotor$State", "wall", "I", false)
  | 3 => ("ColdMotor$State", "wet", "I", false)
  | 4 => ("ColdMotor$State", "warmth", "I", false)
  | 5 => ("ColdMotor$State", "spoon", "I", false)
  | 6 => ("ColdMotor$State", "troubles", "I", false)
  | _ => ("ColdMotor$State", "running", "Z", false)
def tyX7 : Nat → FieldType := fun k => match k with
  | 0 => .int
  | 1 => .int
  | 2 => .int
  | 3 => .int
  | 4 => .int
  | 5 => .int
  | 6 => .int
  | _ => .boolean
abbrev wsX70 : List Cond := u_ws RX7 TX7 8
theorem nmX7 : ∀ a, a < 8 → ∀ b, b < 8 → a ≠ b → (TX7 a).2.1 ≠ (TX7 b).2.1 := by decide +kernel
theorem tyX7_ok : ∀ k, k < 8 → parseFieldDescriptor (TX7 k).2.2.1 = some (tyX7 k) := by decide +kernel
abbrev cX7_init : ByteArray := prog_9_method_1_code
def yX7_init : MethodName := ⟨RX7, "<init>", "()V"⟩
abbrev cX7_begin : ByteArray := prog_9_method_2_code
def yX7_begin : MethodName := ⟨RX7, "begin", "(LColdMotor$Motor;I)V"⟩
abbrev cX7_pack : ByteArray := prog_9_method_3_code
def yX7_pack : MethodName := ⟨RX7, "pack", "()J"⟩
abbrev cX7_unpack : ByteArray := prog_9_method_4_code
def yX7_unpack : MethodName := ⟨RX7, "unpack", "(J)V"⟩
abbrev cX7_partOf : ByteArray := prog_9_method_5_code
def yX7_partOf : MethodName := ⟨RX7, "partOf", "(JI)I"⟩
abbrev cX7_does : ByteArray := prog_9_method_6_code
def yX7_does : MethodName := ⟨RX7, "does", "(LColdMotor$Motor;I)I"⟩
abbrev cX7_turn : ByteArray := prog_9_method_7_code
def yX7_turn : MethodName := ⟨RX7, "turn", "(LColdMotor$Motor;I)I"⟩
abbrev cX7_signOf : ByteArray := prog_9_method_8_code
def yX7_signOf : MethodName := ⟨RX7, "signOf", "(LColdMotor$Motor;I)I"⟩
abbrev cX7_tend : ByteArray := prog_9_method_9_code
def yX7_tend : MethodName := ⟨RX7, "tend", "(LColdMotor$Motor;I)I"⟩
abbrev cX7_dry : ByteArray := prog_9_method_10_code
def yX7_dry : MethodName := ⟨RX7, "dry", "()I"⟩
abbrev cX7_turnsToDrown : ByteArray := prog_9_method_11_code
def yX7_turnsToDrown : MethodName := ⟨RX7, "turnsToDrown", "(LColdMotor$Motor;II)I"⟩
def RX8 : String := "ColdMotor$Text"
def TX8 : u_T := fun k => match k with
  | 0 => ("ColdMotor$Text", "bytes", "[I", true)
  | _ => ("ColdMotor$Text", "size", "I", false)
def tyX8 : Nat → FieldType := fun k => match k with
  | 0 => .array .int
  | _ => .int
abbrev wsX80 : List Cond := u_ws RX8 TX8 2
theorem nmX8 : ∀ a, a < 2 → ∀ b, b < 2 → a ≠ b → (TX8 a).2.1 ≠ (TX8 b).2.1 := by decide +kernel
theorem tyX8_ok : ∀ k, k < 2 → parseFieldDescriptor (TX8 k).2.2.1 = some (tyX8 k) := by decide +kernel
abbrev cX8_init : ByteArray := prog_10_method_1_code
def yX8_init : MethodName := ⟨RX8, "<init>", "(I)V"⟩
abbrev cX8_takes : ByteArray := prog_10_method_2_code
def yX8_takes : MethodName := ⟨RX8, "takes", "(I)Z"⟩
abbrev cX8_byteAt : ByteArray := prog_10_method_3_code
def yX8_byteAt : MethodName := ⟨RX8, "byteAt", "(I)I"⟩
abbrev cX8_figureAt : ByteArray := prog_10_method_4_code
def yX8_figureAt : MethodName := ⟨RX8, "figureAt", "(I)I"⟩
def RX9 : String := "ColdMotor$Trial"
def TX9 : u_T := fun k => match k with
  | 0 => ("ColdMotor$Trial", "done", "[I", true)
  | 1 => ("ColdMotor$Trial", "known", "Z", false)
  | _ => ("ColdMotor$Trial", "having", "I", false)
def tyX9 : Nat → FieldType := fun k => match k with
  | 0 => .array .int
  | 1 => .boolean
  | _ => .int
abbrev wsX90 : List Cond := u_ws RX9 TX9 3
theorem nmX9 : ∀ a, a < 3 → ∀ b, b < 3 → a ≠ b → (TX9 a).2.1 ≠ (TX9 b).2.1 := by decide +kernel
theorem tyX9_ok : ∀ k, k < 3 → parseFieldDescriptor (TX9 k).2.2.1 = some (tyX9 k) := by decide +kernel
abbrev cX9_init : ByteArray := prog_11_method_1_code
def yX9_init : MethodName := ⟨RX9, "<init>", "()V"⟩
abbrev cX9_learn : ByteArray := prog_11_method_2_code
def yX9_learn : MethodName := ⟨RX9, "learn", "(LColdMotor$Motor;LColdMotor$Plan;LColdMotor$State;)V"⟩
abbrev cX9_weightHaving : ByteArray := prog_11_method_3_code
def yX9_weightHaving : MethodName := ⟨RX9, "weightHaving", "(LColdMotor$Ahead;I)J"⟩
abbrev cX9_actsDone : ByteArray := prog_11_method_4_code
def yX9_actsDone : MethodName := ⟨RX9, "actsDone", "(LColdMotor$Ahead;)J"⟩
def RX10 : String := "ColdMotor"
def TX10 : u_T := fun k => match k with
  | 0 => ("ColdMotor", "motorText", "LColdMotor$Text;", true)
  | 1 => ("ColdMotor", "habitText", "LColdMotor$Text;", true)
  | 2 => ("ColdMotor", "machine", "LColdMotor$Motor;", true)
  | 3 => ("ColdMotor", "plan", "LColdMotor$Plan;", true)
  | 4 => ("ColdMotor", "before", "LColdMotor$Ahead;", true)
  | 5 => ("ColdMotor", "seen", "LColdMotor$Log;", true)
  | 6 => ("ColdMotor", "belief", "LColdMotor$Belief;", true)
  | 7 => ("ColdMotor", "trial", "LColdMotor$Trial;", true)
  | 8 => ("ColdMotor", "scratch", "LColdMotor$State;", true)
  | 9 => ("ColdMotor", "mornings", "LColdMotor$Mornings;", true)
  | 10 => ("ColdMotor", "sheets", "[LColdMotor$Sheet;", true)
  | _ => ("ColdMotor", "finding", "I", false)
def tyX10 : Nat → FieldType := fun k => match k with
  | 0 => .object "ColdMotor$Text"
  | 1 => .object "ColdMotor$Text"
  | 2 => .object "ColdMotor$Motor"
  | 3 => .object "ColdMotor$Plan"
  | 4 => .object "ColdMotor$Ahead"
  | 5 => .object "ColdMotor$Log"
  | 6 => .object "ColdMotor$Belief"
  | 7 => .object "ColdMotor$Trial"
  | 8 => .object "ColdMotor$State"
  | 9 => .object "ColdMotor$Mornings"
  | 10 => .array (.object "ColdMotor$Sheet")
  | _ => .int
abbrev wsX100 : List Cond := u_ws RX10 TX10 12
theorem nmX10 : ∀ a, a < 12 → ∀ b, b < 12 → a ≠ b → (TX10 a).2.1 ≠ (TX10 b).2.1 := by decide +kernel
theorem tyX10_ok : ∀ k, k < 12 → parseFieldDescriptor (TX10 k).2.2.1 = some (tyX10 k) := by decide +kernel
abbrev cX10_init : ByteArray := prog_1_method_1_code
def yX10_init : MethodName := ⟨RX10, "<init>", "()V"⟩
abbrev cX10_type : ByteArray := prog_1_method_2_code
def yX10_type : MethodName := ⟨RX10, "type", "(II)I"⟩
abbrev cX10_wipe : ByteArray := prog_1_method_3_code
def yX10_wipe : MethodName := ⟨RX10, "wipe", "(I)I"⟩
abbrev cX10_fault : ByteArray := prog_1_method_4_code
def yX10_fault : MethodName := ⟨RX10, "fault", "(I)I"⟩
abbrev cX10_motor : ByteArray := prog_1_method_5_code
def yX10_motor : MethodName := ⟨RX10, "motor", "(I)I"⟩
abbrev cX10_ahead : ByteArray := prog_1_method_6_code
def yX10_ahead : MethodName := ⟨RX10, "ahead", "(II)I"⟩
abbrev cX10_see : ByteArray := prog_1_method_7_code
def yX10_see : MethodName := ⟨RX10, "see", "(II)I"⟩
abbrev cX10_read : ByteArray := prog_1_method_8_code
def yX10_read : MethodName := ⟨RX10, "read", "(I)I"⟩
abbrev cX10_back : ByteArray := prog_1_method_9_code
def yX10_back : MethodName := ⟨RX10, "back", "()I"⟩
abbrev cX10_left : ByteArray := prog_1_method_10_code
def yX10_left : MethodName := ⟨RX10, "left", "()I"⟩
abbrev cX10_odds : ByteArray := prog_1_method_11_code
def yX10_odds : MethodName := ⟨RX10, "odds", "(II)J"⟩
abbrev cX10_trouble : ByteArray := prog_1_method_12_code
def yX10_trouble : MethodName := ⟨RX10, "trouble", "(II)J"⟩
abbrev cX10_state : ByteArray := prog_1_method_13_code
def yX10_state : MethodName := ⟨RX10, "state", "(II)I"⟩
abbrev cX10_sign : ByteArray := prog_1_method_14_code
def yX10_sign : MethodName := ⟨RX10, "sign", "(II)I"⟩
abbrev cX10_chance : ByteArray := prog_1_method_15_code
def yX10_chance : MethodName := ⟨RX10, "chance", "(III)J"⟩
abbrev cX10_parts : ByteArray := prog_1_method_16_code
def yX10_parts : MethodName := ⟨RX10, "parts", "(I)I"⟩
abbrev cX10_sure : ByteArray := prog_1_method_17_code
def yX10_sure : MethodName := ⟨RX10, "sure", "(II)J"⟩
abbrev cX10_best : ByteArray := prog_1_method_18_code
def yX10_best : MethodName := ⟨RX10, "best", "(II)J"⟩
abbrev cX10_habit : ByteArray := prog_1_method_19_code
def yX10_habit : MethodName := ⟨RX10, "habit", "(II)J"⟩
abbrev cX10_has : ByteArray := prog_1_method_20_code
def yX10_has : MethodName := ⟨RX10, "has", "(I)I"⟩
abbrev cX10_work : ByteArray := prog_1_method_21_code
def yX10_work : MethodName := ⟨RX10, "work", "(I)J"⟩
abbrev cX10_drowned : ByteArray := prog_1_method_22_code
def yX10_drowned : MethodName := ⟨RX10, "drowned", "(II)I"⟩
abbrev cX10_morning : ByteArray := prog_1_method_23_code
def yX10_morning : MethodName := ⟨RX10, "morning", "(III)I"⟩
abbrev cX10_says : ByteArray := prog_1_method_24_code
def yX10_says : MethodName := ⟨RX10, "says", "(IIIII)I"⟩
abbrev cX10_misses : ByteArray := prog_1_method_25_code
def yX10_misses : MethodName := ⟨RX10, "misses", "(III)I"⟩
abbrev cX10_fits : ByteArray := prog_1_method_26_code
def yX10_fits : MethodName := ⟨RX10, "fits", "(I)I"⟩
abbrev cX10_sheet : ByteArray := prog_1_method_27_code
def yX10_sheet : MethodName := ⟨RX10, "sheet", "(III)I"⟩
abbrev cX10_lose : ByteArray := prog_1_method_28_code
def yX10_lose : MethodName := ⟨RX10, "lose", "(I)I"⟩
abbrev cX10_put : ByteArray := prog_1_method_29_code
def yX10_put : MethodName := ⟨RX10, "put", "(IIII)I"⟩
abbrev cX10_get : ByteArray := prog_1_method_30_code
def yX10_get : MethodName := ⟨RX10, "get", "(III)I"⟩
abbrev cX10_copy : ByteArray := prog_1_method_31_code
def yX10_copy : MethodName := ⟨RX10, "copy", "(IIIII)I"⟩
abbrev cX10_write : ByteArray := prog_1_method_32_code
def yX10_write : MethodName := ⟨RX10, "write", "(II)I"⟩
abbrev cX10_count : ByteArray := prog_1_method_33_code
def yX10_count : MethodName := ⟨RX10, "count", "(I)I"⟩
abbrev cX10_digest : ByteArray := prog_1_method_34_code
def yX10_digest : MethodName := ⟨RX10, "digest", "()J"⟩
abbrev cX10_textOf : ByteArray := prog_1_method_35_code
def yX10_textOf : MethodName := ⟨RX10, "textOf", "(I)LColdMotor$Text;"⟩
abbrev cX10_understand : ByteArray := prog_1_method_36_code
def yX10_understand : MethodName := ⟨RX10, "understand", "(I)V"⟩
abbrev cX10_known : ByteArray := prog_1_method_37_code
def yX10_known : MethodName := ⟨RX10, "known", "()LColdMotor$Belief;"⟩
abbrev cX10_tried : ByteArray := prog_1_method_38_code
def yX10_tried : MethodName := ⟨RX10, "tried", "()LColdMotor$Trial;"⟩
abbrev cX10_found : ByteArray := prog_1_method_39_code
def yX10_found : MethodName := ⟨RX10, "found", "(I)I"⟩
abbrev cX10_isBelow : ByteArray := prog_1_method_40_code
def yX10_isBelow : MethodName := ⟨RX10, "isBelow", "(II)Z"⟩
abbrev cX10_isDay : ByteArray := prog_1_method_41_code
def yX10_isDay : MethodName := ⟨RX10, "isDay", "(II)Z"⟩
abbrev cX10_isLaw : ByteArray := prog_1_method_42_code
def yX10_isLaw : MethodName := ⟨RX10, "isLaw", "(III)Z"⟩
abbrev cX10_refusal : ByteArray := prog_1_method_43_code
def yX10_refusal : MethodName := ⟨RX10, "refusal", "(I)J"⟩
abbrev cX10_told : ByteArray := prog_1_method_44_code
def yX10_told : MethodName := ⟨RX10, "told", "(JJI)J"⟩
abbrev cX10_commonDivisor : ByteArray := prog_1_method_45_code
def yX10_commonDivisor : MethodName := ⟨RX10, "commonDivisor", "(JJ)J"⟩
def RX11 : String := "ColdMotorModel"
def TX11 : u_T := fun k => match k with
  | 0 => ("ColdMotorModel", "texts", "[I", true)
  | 1 => ("ColdMotorModel", "typed", "[I", true)
  | 2 => ("ColdMotorModel", "motor", "[I", true)
  | 3 => ("ColdMotorModel", "habitActs", "[I", true)
  | 4 => ("ColdMotorModel", "habitMany", "I", false)
  | 5 => ("ColdMotorModel", "at", "I", false)
  | 6 => ("ColdMotorModel", "states", "[I", true)
  | 7 => ("ColdMotorModel", "ahead", "[I", true)
  | 8 => ("ColdMotorModel", "seen", "I", false)
  | 9 => ("ColdMotorModel", "seenActs", "[I", true)
  | 10 => ("ColdMotorModel", "seenSigns", "[I", true)
  | 11 => ("ColdMotorModel", "weights", "[J", true)
  | 12 => ("ColdMotorModel", "all", "J", false)
  | 13 => ("ColdMotorModel", "signs", "[I", true)
  | 14 => ("ColdMotorModel", "done", "I", false)
  | 15 => ("ColdMotorModel", "mornings", "I", false)
  | 16 => ("ColdMotorModel", "ages", "[I", true)
  | 17 => ("ColdMotorModel", "colds", "[I", true)
  | 18 => ("ColdMotorModel", "turned", "[I", true)
  | 19 => ("ColdMotorModel", "isThere", "[Z", true)
  | 20 => ("ColdMotorModel", "forms", "[I", true)
  | 21 => ("ColdMotorModel", "sizes", "[I", true)
  | 22 => ("ColdMotorModel", "items", "[I", true)
  | 23 => ("ColdMotorModel", "moved", "[I", true)
  | _ => ("ColdMotorModel", "finding", "I", false)
def tyX11 : Nat → FieldType := fun k => match k with
  | 0 => .array .int
  | 1 => .array .int
  | 2 => .array .int
  | 3 => .array .int
  | 4 => .int
  | 5 => .int
  | 6 => .array .int
  | 7 => .array .int
  | 8 => .int
  | 9 => .array .int
  | 10 => .array .int
  | 11 => .array .long
  | 12 => .long
  | 13 => .array .int
  | 14 => .int
  | 15 => .int
  | 16 => .array .int
  | 17 => .array .int
  | 18 => .array .int
  | 19 => .array .boolean
  | 20 => .array .int
  | 21 => .array .int
  | 22 => .array .int
  | 23 => .array .int
  | _ => .int
abbrev wsX110 : List Cond := u_ws RX11 TX11 25
theorem nmX11 : ∀ a, a < 25 → ∀ b, b < 25 → a ≠ b → (TX11 a).2.1 ≠ (TX11 b).2.1 := by decide +kernel
theorem tyX11_ok : ∀ k, k < 25 → parseFieldDescriptor (TX11 k).2.2.1 = some (tyX11 k) := by decide +kernel
abbrev cX11_init : ByteArray := prog_13_method_1_code
def yX11_init : MethodName := ⟨RX11, "<init>", "()V"⟩
abbrev cX11_in : ByteArray := prog_13_method_3_code
def yX11_in : MethodName := ⟨RX11, "in", "(III)Z"⟩
abbrev cX11_isIn : ByteArray := prog_13_method_4_code
def yX11_isIn : MethodName := ⟨RX11, "isIn", "(II)Z"⟩
abbrev cX11_amount : ByteArray := prog_13_method_5_code
def yX11_amount : MethodName := ⟨RX11, "amount", "(I)I"⟩
abbrev cX11_no : ByteArray := prog_13_method_6_code
def yX11_no : MethodName := ⟨RX11, "no", "(I)J"⟩
abbrev cX11_lowest : ByteArray := prog_13_method_7_code
def yX11_lowest : MethodName := ⟨RX11, "lowest", "(JJI)J"⟩
abbrev cX11_isText : ByteArray := prog_13_method_8_code
def yX11_isText : MethodName := ⟨RX11, "isText", "(I)Z"⟩
abbrev cX11_type : ByteArray := prog_13_method_9_code
def yX11_type : MethodName := ⟨RX11, "type", "(II)I"⟩
abbrev cX11_wipe : ByteArray := prog_13_method_10_code
def yX11_wipe : MethodName := ⟨RX11, "wipe", "(I)I"⟩
abbrev cX11_byteAt : ByteArray := prog_13_method_11_code
def yX11_byteAt : MethodName := ⟨RX11, "byteAt", "(II)I"⟩
abbrev cX11_isFigure : ByteArray := prog_13_method_12_code
def yX11_isFigure : MethodName := ⟨RX11, "isFigure", "(I)Z"⟩
abbrev cX11_plain : ByteArray := prog_13_method_13_code
def yX11_plain : MethodName := ⟨RX11, "plain", "()V"⟩
abbrev cX11_letterOf : ByteArray := prog_13_method_14_code
def yX11_letterOf : MethodName := ⟨RX11, "letterOf", "(I)I"⟩
abbrev cX11_mostOf : ByteArray := prog_13_method_15_code
def yX11_mostOf : MethodName := ⟨RX11, "mostOf", "(I)I"⟩
abbrev cX11_motorFault : ByteArray := prog_13_method_16_code
def yX11_motorFault : MethodName := ⟨RX11, "motorFault", "()I"⟩
abbrev cX11_motorNow : ByteArray := prog_13_method_17_code
def yX11_motorNow : MethodName := ⟨RX11, "motorNow", "()I"⟩
abbrev cX11_habitNow : ByteArray := prog_13_method_18_code
def yX11_habitNow : MethodName := ⟨RX11, "habitNow", "()I"⟩
abbrev cX11_fault : ByteArray := prog_13_method_19_code
def yX11_fault : MethodName := ⟨RX11, "fault", "(I)I"⟩
abbrev cX11_motorOf : ByteArray := prog_13_method_20_code
def yX11_motorOf : MethodName := ⟨RX11, "motorOf", "(I)I"⟩
abbrev cX11_motor : ByteArray := prog_13_method_21_code
def yX11_motor : MethodName := ⟨RX11, "motor", "(I)I"⟩
abbrev cX11_begins : ByteArray := prog_13_method_22_code
def yX11_begins : MethodName := ⟨RX11, "begins", "(II)V"⟩
abbrev cX11_moves : ByteArray := prog_13_method_23_code
def yX11_moves : MethodName := ⟨RX11, "moves", "(III)V"⟩
abbrev cX11_lightFor : ByteArray := prog_13_method_24_code
def yX11_lightFor : MethodName := ⟨RX11, "lightFor", "(I)I"⟩
abbrev cX11_does : ByteArray := prog_13_method_25_code
def yX11_does : MethodName := ⟨RX11, "does", "(III)I"⟩
abbrev cX11_turns : ByteArray := prog_13_method_26_code
def yX11_turns : MethodName := ⟨RX11, "turns", "(II)I"⟩
abbrev cX11_ahead : ByteArray := prog_13_method_27_code
def yX11_ahead : MethodName := ⟨RX11, "ahead", "(II)I"⟩
abbrev cX11_more : ByteArray := prog_13_method_28_code
def yX11_more : MethodName := ⟨RX11, "more", "(II)I"⟩
abbrev cX11_see : ByteArray := prog_13_method_29_code
def yX11_see : MethodName := ⟨RX11, "see", "(II)I"⟩
abbrev cX11_read : ByteArray := prog_13_method_30_code
def yX11_read : MethodName := ⟨RX11, "read", "(I)I"⟩
abbrev cX11_back : ByteArray := prog_13_method_31_code
def yX11_back : MethodName := ⟨RX11, "back", "()I"⟩
abbrev cX11_partsOf : ByteArray := prog_13_method_32_code
def yX11_partsOf : MethodName := ⟨RX11, "partsOf", "(I)J"⟩
abbrev cX11_lays : ByteArray := prog_13_method_33_code
def yX11_lays : MethodName := ⟨RX11, "lays", "()V"⟩
abbrev cX11_leftNow : ByteArray := prog_13_method_34_code
def yX11_leftNow : MethodName := ⟨RX11, "leftNow", "()I"⟩
abbrev cX11_left : ByteArray := prog_13_method_35_code
def yX11_left : MethodName := ⟨RX11, "left", "()I"⟩
abbrev cX11_isSet : ByteArray := prog_13_method_36_code
def yX11_isSet : MethodName := ⟨RX11, "isSet", "(I)Z"⟩
abbrev cX11_odds : ByteArray := prog_13_method_37_code
def yX11_odds : MethodName := ⟨RX11, "odds", "(II)J"⟩
abbrev cX11_troubleNow : ByteArray := prog_13_method_38_code
def yX11_troubleNow : MethodName := ⟨RX11, "troubleNow", "(II)J"⟩
abbrev cX11_trouble : ByteArray := prog_13_method_39_code
def yX11_trouble : MethodName := ⟨RX11, "trouble", "(II)J"⟩
abbrev cX11_stateNow : ByteArray := prog_13_method_40_code
def yX11_stateNow : MethodName := ⟨RX11, "stateNow", "(II)I"⟩
abbrev cX11_state : ByteArray := prog_13_method_41_code
def yX11_state : MethodName := ⟨RX11, "state", "(II)I"⟩
abbrev cX11_sign : ByteArray := prog_13_method_42_code
def yX11_sign : MethodName := ⟨RX11, "sign", "(II)I"⟩
abbrev cX11_goesOn : ByteArray := prog_13_method_43_code
def yX11_goesOn : MethodName := ⟨RX11, "goesOn", "(III)V"⟩
abbrev cX11_groupBy : ByteArray := prog_13_method_44_code
def yX11_groupBy : MethodName := ⟨RX11, "groupBy", "(III)I"⟩
abbrev cX11_weightOf : ByteArray := prog_13_method_45_code
def yX11_weightOf : MethodName := ⟨RX11, "weightOf", "(I)J"⟩
abbrev cX11_those : ByteArray := prog_13_method_46_code
def yX11_those : MethodName := ⟨RX11, "those", "()I"⟩
abbrev cX11_chanceNow : ByteArray := prog_13_method_47_code
def yX11_chanceNow : MethodName := ⟨RX11, "chanceNow", "(III)J"⟩
abbrev cX11_chance : ByteArray := prog_13_method_48_code
def yX11_chance : MethodName := ⟨RX11, "chance", "(III)J"⟩
abbrev cX11_partsNow : ByteArray := prog_13_method_49_code
def yX11_partsNow : MethodName := ⟨RX11, "partsNow", "(I)I"⟩
abbrev cX11_parts : ByteArray := prog_13_method_50_code
def yX11_parts : MethodName := ⟨RX11, "parts", "(I)I"⟩
abbrev cX11_sure : ByteArray := prog_13_method_51_code
def yX11_sure : MethodName := ⟨RX11, "sure", "(II)J"⟩
abbrev cX11_inOne : ByteArray := prog_13_method_52_code
def yX11_inOne : MethodName := ⟨RX11, "inOne", "(II)J"⟩
abbrev cX11_inTwo : ByteArray := prog_13_method_53_code
def yX11_inTwo : MethodName := ⟨RX11, "inTwo", "(II)J"⟩
abbrev cX11_bestNow : ByteArray := prog_13_method_54_code
def yX11_bestNow : MethodName := ⟨RX11, "bestNow", "(II)J"⟩
abbrev cX11_best : ByteArray := prog_13_method_55_code
def yX11_best : MethodName := ⟨RX11, "best", "(II)J"⟩
abbrev cX11_runsBy : ByteArray := prog_13_method_56_code
def yX11_runsBy : MethodName := ⟨RX11, "runsBy", "(I)Z"⟩
abbrev cX11_habitOf : ByteArray := prog_13_method_57_code
def yX11_habitOf : MethodName := ⟨RX11, "habitOf", "(II)J"⟩
abbrev cX11_habit : ByteArray := prog_13_method_58_code
def yX11_habit : MethodName := ⟨RX11, "habit", "(II)J"⟩
abbrev cX11_hasNow : ByteArray := prog_13_method_59_code
def yX11_hasNow : MethodName := ⟨RX11, "hasNow", "(I)I"⟩
abbrev cX11_has : ByteArray := prog_13_method_60_code
def yX11_has : MethodName := ⟨RX11, "has", "(I)I"⟩
abbrev cX11_workNow : ByteArray := prog_13_method_61_code
def yX11_workNow : MethodName := ⟨RX11, "workNow", "(I)J"⟩
abbrev cX11_work : ByteArray := prog_13_method_62_code
def yX11_work : MethodName := ⟨RX11, "work", "(I)J"⟩
abbrev cX11_drownedNow : ByteArray := prog_13_method_63_code
def yX11_drownedNow : MethodName := ⟨RX11, "drownedNow", "(II)I"⟩
abbrev cX11_drowned : ByteArray := prog_13_method_64_code
def yX11_drowned : MethodName := ⟨RX11, "drowned", "(II)I"⟩
abbrev cX11_morning : ByteArray := prog_13_method_65_code
def yX11_morning : MethodName := ⟨RX11, "morning", "(III)I"⟩
abbrev cX11_isLaw : ByteArray := prog_13_method_66_code
def yX11_isLaw : MethodName := ⟨RX11, "isLaw", "(III)Z"⟩
abbrev cX11_saysOf : ByteArray := prog_13_method_67_code
def yX11_saysOf : MethodName := ⟨RX11, "saysOf", "(IIIII)I"⟩
abbrev cX11_says : ByteArray := prog_13_method_68_code
def yX11_says : MethodName := ⟨RX11, "says", "(IIIII)I"⟩
abbrev cX11_missesOf : ByteArray := prog_13_method_69_code
def yX11_missesOf : MethodName := ⟨RX11, "missesOf", "(III)I"⟩
abbrev cX11_misses : ByteArray := prog_13_method_70_code
def yX11_misses : MethodName := ⟨RX11, "misses", "(III)I"⟩
abbrev cX11_fitsNow : ByteArray := prog_13_method_71_code
def yX11_fitsNow : MethodName := ⟨RX11, "fitsNow", "(I)I"⟩
abbrev cX11_fits : ByteArray := prog_13_method_72_code
def yX11_fits : MethodName := ⟨RX11, "fits", "(I)I"⟩
abbrev cX11_meets : ByteArray := prog_13_method_73_code
def yX11_meets : MethodName := ⟨RX11, "meets", "(I)I"⟩
abbrev cX11_isSheet : ByteArray := prog_13_method_74_code
def yX11_isSheet : MethodName := ⟨RX11, "isSheet", "(I)Z"⟩
abbrev cX11_sheet : ByteArray := prog_13_method_75_code
def yX11_sheet : MethodName := ⟨RX11, "sheet", "(III)I"⟩
abbrev cX11_lose : ByteArray := prog_13_method_76_code
def yX11_lose : MethodName := ⟨RX11, "lose", "(I)I"⟩
abbrev cX11_lacks : ByteArray := prog_13_method_77_code
def yX11_lacks : MethodName := ⟨RX11, "lacks", "(III)I"⟩
abbrev cX11_keep : ByteArray := prog_13_method_78_code
def yX11_keep : MethodName := ⟨RX11, "keep", "(III)V"⟩
abbrev cX11_put : ByteArray := prog_13_method_79_code
def yX11_put : MethodName := ⟨RX11, "put", "(IIII)I"⟩
abbrev cX11_get : ByteArray := prog_13_method_80_code
def yX11_get : MethodName := ⟨RX11, "get", "(III)I"⟩
abbrev cX11_copy : ByteArray := prog_13_method_81_code
def yX11_copy : MethodName := ⟨RX11, "copy", "(IIIII)I"⟩
abbrev cX11_write : ByteArray := prog_13_method_82_code
def yX11_write : MethodName := ⟨RX11, "write", "(II)I"⟩
abbrev cX11_sumOf : ByteArray := prog_13_method_83_code
def yX11_sumOf : MethodName := ⟨RX11, "sumOf", "(I)I"⟩
abbrev cX11_actsOfHabit : ByteArray := prog_13_method_84_code
def yX11_actsOfHabit : MethodName := ⟨RX11, "actsOfHabit", "()I"⟩
abbrev cX11_count : ByteArray := prog_13_method_85_code
def yX11_count : MethodName := ⟨RX11, "count", "(I)I"⟩
abbrev cX11_digest : ByteArray := prog_13_method_86_code
def yX11_digest : MethodName := ⟨RX11, "digest", "()J"⟩
def RJ6 : String := "java/lang/Integer"
def TJ6 : u_T := fun k => match k with
  | _ => ("", "", "", false)
def tyJ6 : Nat → FieldType := fun k => match k with
  | _ => .int
abbrev wsJ60 : List Cond := u_ws RJ6 TJ6 0
theorem nmJ6 : ∀ a, a < 0 → ∀ b, b < 0 → a ≠ b → (TJ6 a).2.1 ≠ (TJ6 b).2.1 := by decide +kernel
theorem tyJ6_ok : ∀ k, k < 0 → parseFieldDescriptor (TJ6 k).2.2.1 = some (tyJ6 k) := by decide +kernel
abbrev cJ6_bitCount_0f7a4 : ByteArray := prog_14_method_49_code
def yJ6_bitCount_0f7a4 : MethodName := ⟨RJ6, "bitCount", "(I)I"⟩
def RJ9 : String := "java/lang/Math"
def TJ9 : u_T := fun k => match k with
  | _ => ("", "", "", false)
def tyJ9 : Nat → FieldType := fun k => match k with
  | _ => .int
abbrev wsJ90 : List Cond := u_ws RJ9 TJ9 0
theorem nmJ9 : ∀ a, a < 0 → ∀ b, b < 0 → a ≠ b → (TJ9 a).2.1 ≠ (TJ9 b).2.1 := by decide +kernel
theorem tyJ9_ok : ∀ k, k < 0 → parseFieldDescriptor (TJ9 k).2.2.1 = some (tyJ9 k) := by decide +kernel
abbrev cJ9_abs_0f7a4 : ByteArray := prog_15_method_59_code
def yJ9_abs_0f7a4 : MethodName := ⟨RJ9, "abs", "(I)I"⟩
abbrev cJ9_max_7cf53 : ByteArray := prog_15_method_65_code
def yJ9_max_7cf53 : MethodName := ⟨RJ9, "max", "(II)I"⟩
abbrev cJ9_min_7cf53 : ByteArray := prog_15_method_69_code
def yJ9_min_7cf53 : MethodName := ⟨RJ9, "min", "(II)I"⟩
def RJ10 : String := "java/lang/System"
def TJ10 : u_T := fun k => match k with
  | _ => ("", "", "", false)
def tyJ10 : Nat → FieldType := fun k => match k with
  | _ => .int
abbrev wsJ100 : List Cond := u_ws RJ10 TJ10 0
theorem nmJ10 : ∀ a, a < 0 → ∀ b, b < 0 → a ≠ b → (TJ10 a).2.1 ≠ (TJ10 b).2.1 := by decide +kernel
theorem tyJ10_ok : ∀ k, k < 0 → parseFieldDescriptor (TJ10 k).2.2.1 = some (tyJ10 k) := by decide +kernel
def RJ7 : String := "java/util/Arrays"
def TJ7 : u_T := fun k => match k with
  | _ => ("", "", "", false)
def tyJ7 : Nat → FieldType := fun k => match k with
  | _ => .int
abbrev wsJ70 : List Cond := u_ws RJ7 TJ7 0
theorem nmJ7 : ∀ a, a < 0 → ∀ b, b < 0 → a ≠ b → (TJ7 a).2.1 ≠ (TJ7 b).2.1 := by decide +kernel
theorem tyJ7_ok : ∀ k, k < 0 → parseFieldDescriptor (TJ7 k).2.2.1 = some (tyJ7 k) := by decide +kernel
abbrev cJ7_fill_53178 : ByteArray := prog_17_method_103_code
def yJ7_fill_53178 : MethodName := ⟨RJ7, "fill", "([II)V"⟩
def RL : String := "ColdMotorLaw"
abbrev cL_law : ByteArray := code
def yL_law : MethodName := ⟨RL, "law", "([I)Z"⟩
