/-! the judgement: from this frame, with this memory, the method comes to its end -/
def gg_tG : List Cond := lw_tbl.filter goodWord
def gg_nw : List (String × Nat × MethodName × String) := [(RX10, 30, yX5_init, RX10), (RX10, 37, yX0_init, RX10), (RX10, 44, yX2_init, RX10), (RX10, 51, yX1_init, RX10), (RX1, 38, yX7_init, RX10), (RX10, 58, yX9_init, RX10), (RX10, 65, yX7_init, RX10), (RX10, 72, yX3_init, RX10), (RX10, 83, yX6_init, RX10), (RX6, 32, yX10_isBelow, RX10), (RX2, 22, yX10_isBelow, RX10), (RX7, 47, yX10_isBelow, RX10), (RX1, 98, yX10_isBelow, RX10), (RX10, 201, yX1_weightRunning, RX10), (RX3, 28, yX10_isBelow, RX10)]
def gg_N (U : State) : Prop := ∀ q ∈ gg_nw, va_Nw (.methodLinkNest q.1 q.2.1 q.2.2.1 q.2.2.2) U
def gg_K (D : va_G) (ca : Nat → ClassId) (U : State) : Prop := (∀ (c : Nat) (q : vw_C), gg_cls[c]? = some q → u_Kn U q.1 q.2.1 q.2.2 (D.1 c) (D.2 c)) ∧ ∀ t, t < 65 → 20 ≤ gg_kd t → ArrOfT U (ca t) (gg_ty (gg_kd t)) ∧ va_RA U (ca t) (gg_ty (gg_kd t))
def gg_S (ad : Nat → Nat) (A : Nat → Prop) (U : State) (H : Heap) : Prop := ∀ k, k < 5 → va_Z (gg_sn k).1 (gg_sn k).2.1 (gg_sn k).2.2 (.ref (ad (100 + k))) A U H ∧ va_T (gg_st k) (ad (100 + k)) (gg_sl k) (fun j => .int (gg_sv k j)) A U H
def gg_rok (rt : Option FieldType) (cc : ByteArray) (pc : Nat) (v : Option Value) : Prop := match v with
  | none => rt = none ∧ decode cc pc = .ok (.return_, 1)
  | some (.int x) => (∃ ty, rt = some ty ∧ narrow ty (.int x) = .int x) ∧ decode cc pc = .ok (.ireturn, 1)
  | some (.long _) => rt = some .long ∧ decode cc pc = .ok (.lreturn, 1)
  | some (.ref _) => (∃ n, rt = some (.object n)) ∧ decode cc pc = .ok (.areturn, 1)
  | _ => False
abbrev gg_T : Type := Nat → List (Option Value) → List Value → gg_M → Prop
def gg_G (p : Program) (l : Launch) (e : Env) (R : Room) (s : State) (m : MethodId) (args : Array Value) (below : List Frame) (meth : Method) (c : Code) (D : va_G) (ca : Nat → ClassId) (ad : Nat → Nat) (A : Nat → Prop) (cells slots : Nat) (Q : State → Prop) (nL : Nat) : gg_T :=
  fun pc L st u => ∀ (H : Heap) (locs : List Loc) (ls : Array Slot), va_P D gg_cls (gg_ws ad ca u) H → va_S A s.heap H locs → gg_lv ad ls nL L → W p l e R s m args below meth c H locs cells slots Q (F0 m pc ls (st.map (gg_cv ad)))
def gg_Cx (X : Option (Nat × (Nat → Int32))) (cc : ByteArray) (nL : Nat) (own : String) (rt : Option FieldType) (h : Nat) (E : Option Value → gg_M → Prop) (p : Program) (l : Launch) (e : Env) (R : Room) (s : State) (m : MethodId) (args : Array Value) (below : List Frame) (meth : Method) (c : Code) (D : va_G) (ca : Nat → ClassId) (ad : Nat → Nat) (A : Nat → Prop) (cells slots : Nat) (Q : State → Prop) : Prop :=
  p.tables.exec = Jvm.exec ∧ c.code = cc ∧ c.maxLocals = nL ∧ s.vm.findClass own = some m.cls ∧ (∀ w ∈ gg_tG, w.before args s = true) ∧ (h ≤ R.frames ∧ 64 * h ≤ R.locals ∧ cells ≤ R.cells ∧ slots ≤ R.slots) ∧
  gg_K D ca s ∧ gg_S ad A s s.heap ∧ (∀ i j, i < 65 → j < 65 → ad i = ad j → i = j) ∧ (∀ i, i < 65 → A (ad i)) ∧ gg_N s ∧ (∀ L xs, X = some (L, xs) → va_T .int (ad 110) L (fun j => .int (xs j)) A s s.heap) ∧
  ∀ (H : Heap) (locs : List Loc) (ls : Array Slot) (pc : Nat) (v : Option Value) (u : gg_M), va_P D gg_cls (gg_ws ad ca u) H → va_S A s.heap H locs → E v u → gg_rok rt cc pc v → W p l e R s m args below meth c H locs cells slots Q (F0 m pc ls (v.map (gg_cv ad)).toList)
/-- G is the judgement of a method with code cc, nL places, of the class own, whose ends may be E, with frames for h more -/
def gg_Cl (X : Option (Nat × (Nat → Int32))) (cc : ByteArray) (nL : Nat) (own : String) (rt : Option FieldType) (h : Nat) (E : Option Value → gg_M → Prop) (G : gg_T) : Prop :=
  ∃ (p : Program) (l : Launch) (e : Env) (R : Room) (s : State) (m : MethodId) (args : Array Value) (below : List Frame) (meth : Method) (c : Code) (D : va_G) (ca : Nat → ClassId) (ad : Nat → Nat) (A : Nat → Prop) (cells slots : Nat) (Q : State → Prop), gg_Cx X cc nL own rt h E p l e R s m args below meth c D ca ad A cells slots Q ∧ G = gg_G p l e R s m args below meth c D ca ad A cells slots Q nL
/-! a method's contract -/
def gg_AS (ad : Nat → Nat) : Nat → Prop := fun q => ∃ k, k < 65 ∧ q = ad k
def gg_rm (h : Nat) : Room := { frames := h, cells := 0, slots := 0, locals := 64 * h }
def gg_Wd (D : va_G) (ca : Nat → ClassId) (ad : Nat → Nat) (u : gg_M) (U : State) : Prop := va_P D gg_cls (gg_ws ad ca u) U.heap ∧ gg_K D ca U ∧ gg_S ad (gg_AS ad) U U.heap ∧ (∀ i j, i < 65 → j < 65 → ad i = ad j → i = j) ∧ gg_N U
def gg_QR (D : va_G) (ca : Nat → ClassId) (ad : Nat → Nat) (E : Option Value → gg_M → Prop) : Array Value → State → Outcome → State → Prop := fun _ st o t => (∃ (v : Option Value) (u : gg_M), o = .returned (v.map (gg_cv ad)) ∧ E v u ∧ va_P D gg_cls (gg_ws ad ca u) t.heap) ∧ va_F (gg_AS ad) st t
def gg_Mt (h : Nat) (y : MethodName) (cy : ByteArray) (nLy : Nat) (rt : Option FieldType) (As : List Value) (u : gg_M) (E : Option Value → gg_M → Prop) : Prop :=
  ∀ (l : Launch) (D : va_G) (ca : Nat → ClassId) (ad : Nat → Nat), Met l y (.code y cy nLy rt :: gg_tG) (gg_rm h) (va_Pc (As.map (gg_cv ad)) (gg_Wd D ca ad u)) (gg_QR D ca ad E) 0 0 (gg_AS ad)
theorem gg_K.moved {D : va_G} {ca : Nat → ClassId} {u U : State} (hvm : u.vm.Alike U.vm) (h : gg_K D ca u) : gg_K D ca U := ⟨fun c q hq => u_Kn_moved hvm (h.1 c q hq), fun t h1 h2 => ⟨arrOfT_moved hvm (h.2 t h1 h2).1, (h.2 t h1 h2).2.moved hvm⟩⟩
theorem gg_K.va {D : va_G} {ca : Nat → ClassId} {U : State} (h : gg_K D ca U) {t : Nat} (ht : t < 65) (hk : 20 ≤ gg_kd t) : va_K D gg_cls [(ca t, gg_ty (gg_kd t))] U :=
  ⟨h.1, fun k q hq => by
    match k, hq with
    | 0, hq => cases hq; exact h.2 t ht hk
    | k + 1, hq => simp at hq⟩
theorem gg_K.v0 {D : va_G} {ca : Nat → ClassId} {U : State} (h : gg_K D ca U) : va_K D gg_cls [] U := ⟨h.1, fun k q hq => by simp at hq⟩
theorem gg_S.moved {ad : Nat → Nat} {A : Nat → Prop} {u U : State} {H : Heap} (hvm : u.vm.Alike U.vm) (h : gg_S ad A u H) : gg_S ad A U H := fun k hk => ⟨(h k hk).1.moved hvm, (h k hk).2.moved hvm⟩
theorem gg_S.kept {ad : Nat → Nat} {A : Nat → Prop} {U : State} {H H1 : Heap} (h : gg_S ad A U H) (hq : ∀ a : Nat, a < H.size → ¬ A a → H1[a]? = H[a]?) : gg_S ad A U H1 := fun k hk => ⟨(h k hk).1.kept hq, (h k hk).2.kept hq⟩
theorem gg_S.narrow {ad : Nat → Nat} {A B : Nat → Prop} {U : State} {H : Heap} (h : gg_S ad A U H) (hAB : ∀ q, B q → A q) : gg_S ad B U H := fun k hk => ⟨(h k hk).1.narrow hAB, (h k hk).2.narrow hAB⟩
theorem gg_N.same {u U : State} (h : u.vm = U.vm) (hN : gg_N u) : gg_N U := fun q hq => va_Nw.same rfl h (hN q hq)
theorem gg_N.warm {s U : State} (hW : s.WarmedH U.vm) (hN : gg_N s) : gg_N U := fun q hq => va_Nw.warmM hW (hN q hq)
theorem gg_va_D {ad : Nat → Nat} {ca : Nat → ClassId} {A : Nat → Prop} {u : gg_M} (hI : ∀ i j, i < 65 → j < 65 → ad i = ad j → i = j) (hA : ∀ i, i < 65 → A (ad i)) : va_D A (gg_ws ad ca u) := by
  refine ⟨fun i j p q hp hq e => ?_, fun k q hq => ?_⟩
  · obtain ⟨h1, rfl⟩ := gg_ws_of hp
    obtain ⟨h2, rfl⟩ := gg_ws_of hq
    exact hI i j h1 h2 e
  · obtain ⟨h1, rfl⟩ := gg_ws_of hq
    exact hA k h1
theorem gg_blind (D : va_G) (ca : Nat → ClassId) (ad : Nat → Nat) (u : gg_M) (As : List Value) : FrameBlind (va_Pc (As.map (gg_cv ad)) (gg_Wd D ca ad u)) := by
  intro a U g mk h
  obtain ⟨h0, h1, h2, h3, h4, h5⟩ := h
  exact ⟨h0, h1, h2.moved (u := U) (U := U.calling g mk a) (Vm.Alike.refl U.vm), h3.moved (u := U) (U := U.calling g mk a) (Vm.Alike.refl U.vm), h4, h5.same rfl⟩
/-- a contract out of the body's walk -/
theorem gg_intro {h : Nat} {y : MethodName} {cy : ByteArray} {nLy : Nat} {rt : Option FieldType} {own : String} {As : List Value} {L : List (Option Value)} {u : gg_M} {E : Option Value → gg_M → Prop} (hy : plainFor y = true) (ho : y.cls = own) (hL : gg_eL As ++ List.replicate (nLy - (gg_eL As).length) none = L) (hlen : (gg_eL As).length ≤ nLy)
    (hb : ∀ G, gg_Cl none cy nLy own rt h E G → G 0 L [] u) : gg_Mt h y cy nLy rt As u E := by
  intro l D ca ad
  refine va_MetF (cc := cy) (maxL := nLy) (ret := rt) hy rfl ?_
  intro p e s m args below meth c s₁ B hml hv
  obtain ⟨rfl, hP, hK, hS, hI, hN⟩ := hv
  have hx := B.exec
  have hbb := B.bytes
  have hr := B.returns
  have hts := atoms_spec (ws := Cond.code y cy nLy rt :: gg_tG) B.pre
  have hown : s.vm.findClass own = some m.cls := by rw [← ho]; exact findClass_of_methodNamed B.named
  have hlocks := B.notSynchronized
  have hle := lv_entry (As.map (gg_cv ad)) (n := nLy) (by rw [gg_eL_len]; exact hlen)
  rw [lg_entry_eq]
  generalize (lg_sl (As.map (gg_cv ad)) ++ List.replicate (nLy - (lg_sl (As.map (gg_cv ad))).length) Slot.unset).toArray = ls at hle ⊢
  refine hb (gg_G p l e (headSpec (Cond.code y cy nLy rt :: gg_tG) (gg_rm h)).room s m _ below meth c D ca ad (gg_AS ad) 0 0 (MQ below (gg_QR D ca ad E) _ s 0 0 (gg_AS ad)) nLy) ⟨p, l, e, _, s, m, _, below, meth, c, D, ca, ad, gg_AS ad, 0, 0, _, ⟨hx, hbb, hml, hown, fun w hw => hts w (List.mem_cons_of_mem _ hw), ⟨Nat.le_refl h, Nat.le_refl _, Nat.le_refl 0, Nat.le_refl 0⟩, hK, hS, hI, fun i hi => ⟨i, hi, rfl⟩, hN, fun _ _ h => (by cases h), ?_⟩, rfl⟩ s.heap [] ls hP va_S.rf ⟨?_, ?_⟩
  · intro H locs ls pc v u' hP' hS' hE hk
    have hq : ∀ t : State, t.heap = H → s.WarmedH t.vm → gg_QR D ca ad E (As.map (gg_cv ad)).toArray s (.returned (v.map (gg_cv ad))) t := fun t ht _ => ⟨⟨v, u', rfl, hE, by rw [ht]; exact hP'⟩, hS'.F ht⟩
    match v, hk, hq with
    | none, hk, hq => exact W.vret hx hbb (hr.trans hk.1) hq hS'.2.2 hk.2
    | some (.int x), hk, hq =>
      obtain ⟨⟨ty, h1, h2⟩, h3⟩ := hk
      exact W.zret hx hbb (hr.trans h1) h2 hq hS'.2.2 h3
    | some (.long x), hk, hq => exact W.lret hx hbb (hr.trans hk.1) hq hS'.2.2 hk.2
    | some (.ref x), hk, hq =>
      obtain ⟨⟨n, h1⟩, h3⟩ := hk
      exact W.aret hx hbb (hr.trans h1) (Or.inl ⟨n, rfl⟩) (Or.inr ⟨_, rfl⟩) hq hS'.2.2 h3
    | some .null, hk, hq => exact hk.elim
    | some (.float _), hk, hq => exact hk.elim
    | some (.double _), hk, hq => exact hk.elim
  · rw [← hL, List.length_append, List.length_replicate]
    omega
  · rw [← hL, gg_lp_pad, gg_eL_args]
    exact hle
/-! the end of a call -/
theorem gg_calld {p : Program} {l : Launch} {e : Env} {R : Room} {s : State} {m : MethodId} {args : Array Value} {below : List Frame} {meth : Method} {c : Code} {H : Heap} {locs : List Loc} {cells slots : Nat} {Q : State → Prop} {pc : Nat} {ls : Array Slot} {rest st0 : List Value} {a : Array Value} {A : Nat → Prop} {D : va_G} {ca : Nat → ClassId} {ad : Nat → Nat} {E : Option Value → gg_M → Prop}
    (hr : va_Run p l e R s m args below meth c H locs cells slots 0 0 (F0 m pc ls st0) rest (gg_QR D ca ad E a) (gg_AS ad)) (hS : va_S A s.heap H locs) (hA : ∀ q, gg_AS ad q → A q)
    (kk : ∀ (v : Option Value) (u : gg_M) (H1 : Heap) (locs1 : List Loc), E v u → va_P D gg_cls (gg_ws ad ca u) H1 → va_S A s.heap H1 locs1 → W p l e R s m args below meth c H1 locs1 cells slots Q (F0 m (pc + 3) ls ((v.map (gg_cv ad)).toList ++ rest))) : W p l e R s m args below meth c H locs cells slots Q (F0 m pc ls st0) := by
  intro T hT X
  obtain ⟨v, st₀, t, T', Lc, h0, X', hL, e1, e2, ⟨⟨r, u, hv, hp, hb⟩, hz, hk⟩, st⟩ := hr T hT X
  cases hv
  rw [h0] at hz hk
  obtain ⟨t2, a1, b1⟩ := kk r u T'.heap (locs ++ Lc) hp (by rw [e1]; exact hb)
    ⟨Nat.le_trans hS.1 (by rw [e1]; exact hz), fun q h1 h2 => by rw [e1, hk q (Nat.lt_of_lt_of_le h1 hS.1) (fun z => h2 (hA q z))]; exact hS.2.1 q h1 h2, fun q hq => by
      rcases List.mem_append.mp hq with h | h
      · exact hS.2.2 q h
      · exact hA _ (hL q h)⟩ T' rfl X'
  exact ⟨t2, st t2 a1, b1⟩
