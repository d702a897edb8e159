/-! makings: worlds that grow -/
abbrev ci_ty (k : Nat → ClassId) : List (ClassId × FieldType) := [(k 0, .int), (k 1, .long), (k 2, .boolean), (k 3, .object RX6), (k 4, .array .int)]
def ci_B (D : va_G) (k : Nat → ClassId) (U : State) : Prop := va_K D gg_cls (ci_ty k) U ∧ gg_N U ∧ va_AO RX6 U ∧ va_AOA .int U
theorem ci_B.warm {D : va_G} {k : Nat → ClassId} {s U : State} (hW : s.WarmedH U.vm) (h : ci_B D k s) : ci_B D k U := ⟨va_K.moved hW.alike h.1, h.2.1.warm hW, va_AO.moved hW.alike h.2.2.1, arrayOver_alikeB hW.alike h.2.2.2⟩
theorem ci_B.call {D : va_G} {k : Nat → ClassId} {U : State} {g : JFrame} {mk : MethodId} {a : Array Value} (h : ci_B D k U) : ci_B D k (U.calling g mk a) := ⟨va_K.moved (u := U) (U := U.calling g mk a) (Vm.Alike.refl U.vm) h.1, h.2.1.same rfl, va_AO.moved (u := U) (U := U.calling g mk a) (Vm.Alike.refl U.vm) h.2.2.1, arrayOver_alikeB (s := U) (U := U.calling g mk a) (Vm.Alike.refl U.vm) h.2.2.2⟩
def ci_Pre (D : va_G) (k : Nat → ClassId) (ad : Nat → Nat) (w0 : va_W) (sz : Nat) (U : State) : Prop := U.heap.size = sz ∧ va_P D gg_cls w0 U.heap ∧ ci_B D k U ∧ gg_S ad (va_A w0 sz) U U.heap ∧ va_D (fun _ => True) w0
theorem ci_blind (D : va_G) (k : Nat → ClassId) (ad : Nat → Nat) (w0 : va_W) (sz : Nat) (As : List Value) : FrameBlind (va_Pc As (ci_Pre D k ad w0 sz)) := by
  intro a U g mk h
  obtain ⟨h0, h1, h2, h3, h4, h5⟩ := h
  exact ⟨h0, h1, h2, h3.call, h4.moved (u := U) (U := U.calling g mk a) (Vm.Alike.refl U.vm), h5⟩
def ci_Mt (h kc ks : Nat) (y : MethodName) (cy : ByteArray) (nLy : Nat) (As : List Value) (w0 : va_W) (k : Nat → ClassId) (E : va_W → Prop) : Prop :=
  ∀ (l : Launch) (D : va_G) (ad : Nat → Nat) (sz : Nat), Met l y (.code y cy nLy none :: gg_tG) { frames := h, cells := kc, slots := ks, locals := 64 * h } (va_Pc As (ci_Pre D k ad w0 sz)) (va_Qv E (fun (w1 : va_W) t => va_P D gg_cls w1 t.heap ∧ va_D (va_A w0 sz) w1) (va_A w0 sz)) kc ks (va_A w0 sz)
abbrev ci_T : Type := va_W → Nat → Nat → Nat → List (Nat × Value) → List Value → Prop
def ci_G (p : Program) (l : Launch) (e : Env) (R : Room) (s : State) (m : MethodId) (args : Array Value) (below : List Frame) (meth : Method) (c : Code) (D : va_G) (A : Nat → Prop) (Q : State → Prop) (nL : Nat) : ci_T :=
  fun ws cells slots pc L st => ∀ (H : Heap) (locs : List Loc) (ls : Array Slot), va_P D gg_cls ws H → va_D A ws → va_S A s.heap H locs → lv_has ls nL L → W p l e R s m args below meth c H locs cells slots Q (F0 m pc ls st)
def ci_Cx (nm : String) (cc : ByteArray) (nL : Nat) (own : String) (h kc ks : Nat) (k : Nat → ClassId) (ad : Nat → Nat) (E : va_W → Prop) (p : Program) (l : Launch) (e : Env) (R : Room) (s : State) (m : MethodId) (args : Array Value) (below : List Frame) (meth : Method) (c : Code) (D : va_G) (A : Nat → Prop) (Q : State → Prop) : Prop :=
  p.tables.exec = Jvm.exec ∧ c.code = cc ∧ c.maxLocals = nL ∧ s.vm.findClass own = some m.cls ∧ (∀ w ∈ gg_tG, w.before args s = true) ∧ (h ≤ R.frames ∧ 64 * h ≤ R.locals ∧ kc ≤ R.cells ∧ ks ≤ R.slots) ∧ ci_B D k s ∧ gg_S ad A s s.heap ∧ (∀ q, s.heap.size ≤ q → A q) ∧ meth.name = nm ∧
  ∀ (H : Heap) (locs : List Loc) (ls : Array Slot) (pc : Nat) (ws : va_W), va_P D gg_cls ws H → va_D A ws → va_S A s.heap H locs → E ws → decode cc pc = .ok (.return_, 1) → W p l e R s m args below meth c H locs kc ks Q (F0 m pc ls [])
def ci_Cl (nm : String) (cc : ByteArray) (nL : Nat) (own : String) (h kc ks : Nat) (k : Nat → ClassId) (ad : Nat → Nat) (E : va_W → Prop) (G : ci_T) : Prop :=
  ∃ (p : Program) (l : Launch) (e : Env) (R : Room) (s : State) (m : MethodId) (args : Array Value) (below : List Frame) (meth : Method) (c : Code) (D : va_G) (A : Nat → Prop) (Q : State → Prop), ci_Cx nm cc nL own h kc ks k ad E p l e R s m args below meth c D A Q ∧ G = ci_G p l e R s m args below meth c D A Q nL
/-- a contract out of the body's walk -/
theorem ci_intro {h kc ks : Nat} {nm : String} {y : MethodName} {cy : ByteArray} {nLy : Nat} {own : String} {As : List Value} {w0 : va_W} {k : Nat → ClassId} {E : va_W → Prop} {L : List (Nat × Value)} (hy : plainFor y = true) (ho : y.cls = own) (hnm : y.name = nm) (hL : lv_args 0 As = L) (hlen : (lg_sl As).length ≤ nLy)
    (hb : ∀ ad G, ci_Cl nm cy nLy own h kc ks k ad E G → G w0 0 0 0 L []) : ci_Mt h kc ks y cy nLy As w0 k E := by
  intro l D ad sz
  refine va_MetF (cc := cy) (maxL := nLy) (ret := none) hy rfl ?_
  intro p e s m args below meth c s₁ B hml hv
  obtain ⟨rfl, hsz, hP, hB, hS, hD0⟩ := hv
  have hx := B.exec
  have hbb := B.bytes
  have hr := B.returns
  have hts := atoms_spec (ws := Cond.code y cy nLy none :: gg_tG) B.pre
  have hown : s.vm.findClass own = some m.cls := by rw [← ho]; exact findClass_of_methodNamed B.named
  have hlocks := B.notSynchronized
  have hin : meth.name = nm := by rw [← hnm]; exact (name_of_methodNamed B.named B.method).1
  subst hsz
  have hD := hD0.self (sz := s.heap.size)
  have hle := lv_entry As (n := nLy) hlen
  rw [lg_entry_eq]
  generalize (lg_sl As ++ List.replicate (nLy - (lg_sl As).length) Slot.unset).toArray = ls at hle ⊢
  refine hb ad (ci_G p l e (headSpec (Cond.code y cy nLy none :: gg_tG) { frames := h, cells := kc, slots := ks, locals := 64 * h }).room s m _ below meth c D (va_A w0 s.heap.size) (MQ below _ _ s kc ks (va_A w0 s.heap.size)) nLy) ⟨p, l, e, _, s, m, _, below, meth, c, D, va_A w0 s.heap.size, _, ⟨hx, hbb, hml, hown, fun w hw => hts w (List.mem_cons_of_mem _ hw), ⟨Nat.le_refl h, Nat.le_refl _, Nat.le_refl kc, Nat.le_refl ks⟩, hB, hS, fun q hq => Or.inr hq, hin, ?_⟩, rfl⟩ s.heap [] ls hP hD va_S.rf ?_
  · intro H locs ls pc ws hP' hD' hS' hE hd
    exact W.vret hx hbb hr (fun t ht _ => ⟨⟨ws, rfl, hE, by rw [ht]; exact hP', hD'⟩, hS'.F ht⟩) hS'.2.2 hd
  · rw [← hL]
    exact hle
/-- behind a call: the others' cells, and the callee's world -/
theorem ci_join {A : Nat → Prop} {D : va_G} {wr wc w1 : va_W} {H H1 : Heap} (hP : va_P D gg_cls (wr ++ wc) H) (hD : va_D A (wr ++ wc)) (hk : ∀ q : Nat, q < H.size → ¬ va_A wc H.size q → H1[q]? = H[q]?) (hF : ∀ q, va_A wc H.size q → A q) (hP1 : va_P D gg_cls w1 H1) (hD1 : va_D (va_A wc H.size) w1) : va_P D gg_cls (wr ++ w1) H1 ∧ va_D A (wr ++ w1) := by
  have at1 : ∀ (i : Nat) (p : Nat × va_E), wr[i]? = some p → i < wr.length ∧ (wr ++ wc)[i]? = some p := fun i p h => by
    have hl := (List.getElem?_eq_some_iff.mp h).1
    exact ⟨hl, by rw [List.getElem?_append_left hl]; exact h⟩
  have hn : ∀ (i : Nat) (p : Nat × va_E), wr[i]? = some p → p.1 < H.size ∧ ¬ va_A wc H.size p.1 := fun i p h => by
    obtain ⟨hl, h2⟩ := at1 i p h
    have hlt : p.1 < H.size := (hP i p h2).lt
    refine ⟨hlt, fun z => ?_⟩
    rcases z with ⟨j, e, hj⟩ | z
    · have h3 : (wr ++ wc)[wr.length + j]? = some (p.1, e) := by rw [List.getElem?_append_right (by omega), Nat.add_sub_cancel_left]; exact hj
      have := hD.1 i (wr.length + j) p (p.1, e) h2 h3 rfl
      omega
    · omega
  refine ⟨va_P.app (fun i p h => ?_) hP1, va_D.app ?_ (hD1.weaken (fun _ q _ z => hF q.1 z)) (fun i j p q hp hq e => ?_)⟩
  · obtain ⟨hl, h2⟩ := at1 i p h
    exact (hP i p h2).kept (hk p.1 (hn i p h).1 (hn i p h).2)
  · exact ⟨fun i j p q hp hq e => hD.1 i j p q (at1 i p hp).2 (at1 j q hq).2 e, fun i p h => hD.2 i p (at1 i p h).2⟩
  · exact (hn i p hp).2 (by rw [e]; exact hD1.2 j q hq)
theorem ci_freeA {A : Nat → Prop} {wr wc : va_W} {H0 H : Heap} {locs : List Loc} (hD : va_D A (wr ++ wc)) (hS : va_S A H0 H locs) (hA : ∀ q, H0.size ≤ q → A q) : ∀ q, va_A wc H.size q → A q := fun q h => by
  rcases h with ⟨j, e, hj⟩ | h
  · have h3 : (wr ++ wc)[wr.length + j]? = some (q, e) := by rw [List.getElem?_append_right (by omega), Nat.add_sub_cancel_left]; exact hj
    exact hD.2 _ _ h3
  · exact hA q (Nat.le_trans hS.1 h)
theorem ci_tail {A : Nat → Prop} {wr wc : va_W} (hD : va_D A (wr ++ wc)) : va_D (fun _ => True) wc := by
  have at2 : ∀ (i : Nat) (p : Nat × va_E), wc[i]? = some p → (wr ++ wc)[wr.length + i]? = some p := fun i p h => by rw [List.getElem?_append_right (by omega), Nat.add_sub_cancel_left]; exact h
  refine ⟨fun i j p q hp hq e => ?_, fun _ _ _ => trivial⟩
  have := hD.1 _ _ p q (at2 i p hp) (at2 j q hq) e
  omega
theorem ci_tailP {D : va_G} {wr wc : va_W} {H : Heap} (hP : va_P D gg_cls (wr ++ wc) H) : va_P D gg_cls wc H := fun i p h => hP (wr.length + i) p (by rw [List.getElem?_append_right (by omega), Nat.add_sub_cancel_left]; exact h)
section CIR
variable {nm : String} {cc : ByteArray} {nL : Nat} {own : String} {h kc ks : Nat} {k : Nat → ClassId} {ad : Nat → Nat} {E : va_W → Prop} {G : ci_T} {ws : va_W} {cells slots pc : Nat} {L : List (Nat × Value)} {st : List Value}
theorem ci_iconst (hG : ci_Cl nm cc nL own h kc ks k ad E G) {n : Int} {v : Int32} (hd : decode cc pc = .ok (.iconst n, 1)) (hv : Int32.ofInt n = v) (kk : G ws cells slots (pc + 1) L (.int v :: st)) : G ws cells slots pc L st := by
  obtain ⟨p, l, e, R, s, m, args, below, meth, c, D, A, Q, ⟨hx, hb, hml, hown, hts, hR, hB, hS0, hA, hin, hE⟩, rfl⟩ := hG
  intro H locs ls hP hD hS hl
  exact lv_iconst hx hb hd hv (kk H locs ls hP hD hS hl)
theorem ci_bipush (hG : ci_Cl nm cc nL own h kc ks k ad E G) {n : Int} {v : Int32} (hd : decode cc pc = .ok (.bipush n, 2)) (hv : (Int8.ofInt n).toInt32 = v) (kk : G ws cells slots (pc + 2) L (.int v :: st)) : G ws cells slots pc L st := by
  obtain ⟨p, l, e, R, s, m, args, below, meth, c, D, A, Q, ⟨hx, hb, hml, hown, hts, hR, hB, hS0, hA, hin, hE⟩, rfl⟩ := hG
  intro H locs ls hP hD hS hl
  exact lv_bipush hx hb hd hv (kk H locs ls hP hD hS hl)
theorem ci_sipush (hG : ci_Cl nm cc nL own h kc ks k ad E G) {n : Int} {v : Int32} (hd : decode cc pc = .ok (.sipush n, 3)) (hv : (Int16.ofInt n).toInt32 = v) (kk : G ws cells slots (pc + 3) L (.int v :: st)) : G ws cells slots pc L st := by
  obtain ⟨p, l, e, R, s, m, args, below, meth, c, D, A, Q, ⟨hx, hb, hml, hown, hts, hR, hB, hS0, hA, hin, hE⟩, rfl⟩ := hG
  intro H locs ls hP hD hS hl
  exact lv_sipush hx hb hd hv (kk H locs ls hP hD hS hl)
theorem ci_aload_n (hG : ci_Cl nm cc nL own h kc ks k ad E G) {k0 : Fin 4} {i x : Nat} (pl : Nat) (hd : decode cc pc = .ok (.aload_n k0, 1)) (hi : (k0 : Nat) = i) (hL : L[pl]? = some (i, .ref x)) (kk : G ws cells slots (pc + 1) L (.ref x :: st)) : G ws cells slots pc L st := by
  obtain ⟨p, l, e, R, s, m, args, below, meth, c, D, A, Q, ⟨hx, hb, hml, hown, hts, hR, hB, hS0, hA, hin, hE⟩, rfl⟩ := hG
  intro H locs ls hP hD hS hl
  exact lv_aload_n hx hb hd hi (lv_at hl pl hL) (kk H locs ls hP hD hS hl)
theorem ci_iload_n (hG : ci_Cl nm cc nL own h kc ks k ad E G) {k0 : Fin 4} {i : Nat} {x : Int32} (pl : Nat) (hd : decode cc pc = .ok (.iload_n k0, 1)) (hi : (k0 : Nat) = i) (hL : L[pl]? = some (i, .int x)) (kk : G ws cells slots (pc + 1) L (.int x :: st)) : G ws cells slots pc L st := by
  obtain ⟨p, l, e, R, s, m, args, below, meth, c, D, A, Q, ⟨hx, hb, hml, hown, hts, hR, hB, hS0, hA, hin, hE⟩, rfl⟩ := hG
  intro H locs ls hP hD hS hl
  exact lv_iload_n hx hb hd hi (lv_at hl pl hL) (kk H locs ls hP hD hS hl)
theorem ci_istore_n (hG : ci_Cl nm cc nL own h kc ks k ad E G) {k0 : Fin 4} {i : Nat} {x : Int32} {L1 : List (Nat × Value)} (hd : decode cc pc = .ok (.istore_n k0, 1)) (hi : (k0 : Nat) = i) (hn : i < nL) (hL : (i, Value.int x) :: L.filter (fun q => !(q.1 == i) && !(q.1 + 1 == i && q.2.category == 2)) = L1) (kk : G ws cells slots (pc + 1) L1 st) : G ws cells slots pc L (.int x :: st) := by
  obtain ⟨p, l, e, R, s, m, args, below, meth, c, D, A, Q, ⟨hx, hb, hml, hown, hts, hR, hB, hS0, hA, hin, hE⟩, rfl⟩ := hG
  intro H locs ls hP hD hS hl
  exact lv_istore_n hx hb hd hi hl hn hL (fun ls1 hl1 => kk H locs ls1 hP hD hS hl1)
theorem ci_astore_n (hG : ci_Cl nm cc nL own h kc ks k ad E G) {k0 : Fin 4} {i : Nat} {x : Nat} {L1 : List (Nat × Value)} (hd : decode cc pc = .ok (.astore_n k0, 1)) (hi : (k0 : Nat) = i) (hn : i < nL) (hL : (i, Value.ref x) :: L.filter (fun q => !(q.1 == i) && !(q.1 + 1 == i && q.2.category == 2)) = L1) (kk : G ws cells slots (pc + 1) L1 st) : G ws cells slots pc L (.ref x :: st) := by
  obtain ⟨p, l, e, R, s, m, args, below, meth, c, D, A, Q, ⟨hx, hb, hml, hown, hts, hR, hB, hS0, hA, hin, hE⟩, rfl⟩ := hG
  intro H locs ls hP hD hS hl
  exact lv_astore_n hx hb hd hi hl hn hL (fun ls1 hl1 => kk H locs ls1 hP hD hS hl1)
theorem ci_iinc (hG : ci_Cl nm cc nL own h kc ks k ad E G) {i : Nat} {n : Int} {x v : Int32} {L1 : List (Nat × Value)} (pl : Nat) (hd : decode cc pc = .ok (.iinc i n, 3)) (hk : L[pl]? = some (i, .int x)) (hv : x + Int32.ofInt n = v) (hn : i < nL) (hL : (i, Value.int v) :: L.filter (fun q => !(q.1 == i) && !(q.1 + 1 == i && q.2.category == 2)) = L1) (kk : G ws cells slots (pc + 3) L1 st) : G ws cells slots pc L st := by
  obtain ⟨p, l, e, R, s, m, args, below, meth, c, D, A, Q, ⟨hx, hb, hml, hown, hts, hR, hB, hS0, hA, hin, hE⟩, rfl⟩ := hG
  intro H locs ls hP hD hS hl
  exact lv_iinc hx hb hd hl hk hv hn hL (fun ls1 hl1 => kk H locs ls1 hP hD hS hl1)
theorem ci_dup (hG : ci_Cl nm cc nL own h kc ks k ad E G) {v : Value} (hd : decode cc pc = .ok (.dup, 1)) (hv : v.category = 1) (kk : G ws cells slots (pc + 1) L (v :: v :: st)) : G ws cells slots pc L (v :: st) := by
  obtain ⟨p, l, e, R, s, m, args, below, meth, c, D, A, Q, ⟨hx, hb, hml, hown, hts, hR, hB, hS0, hA, hin, hE⟩, rfl⟩ := hG
  intro H locs ls hP hD hS hl
  exact lv_dup hx hb hd hv (kk H locs ls hP hD hS hl)
theorem ci_ge (hG : ci_Cl nm cc nL own h kc ks k ad E G) {x y : Int32} {off : Int} {tgt : Nat} (hd : decode cc pc = .ok (.if_icmp .ge off, 3)) (ht : (pc : Int) + off = (tgt : Int)) (hc0 : y ≤ x) (kk : G ws cells slots tgt L st) : G ws cells slots pc L (.int y :: .int x :: st) := by
  obtain ⟨p, l, e, R, s, m, args, below, meth, c, D, A, Q, ⟨hx, hb, hml, hown, hts, hR, hB, hS0, hA, hin, hE⟩, rfl⟩ := hG
  intro H locs ls hP hD hS hl
  exact lv_icmp_ge hx hb hd ht (fun _ => kk H locs ls hP hD hS hl) (fun q => absurd hc0 q)
theorem ci_lt (hG : ci_Cl nm cc nL own h kc ks k ad E G) {x y : Int32} {off : Int} (tgt : Nat) (hd : decode cc pc = .ok (.if_icmp .ge off, 3)) (ht : (pc : Int) + off = (tgt : Int)) (hc0 : ¬ y ≤ x) (kk : G ws cells slots (pc + 3) L st) : G ws cells slots pc L (.int y :: .int x :: st) := by
  obtain ⟨p, l, e, R, s, m, args, below, meth, c, D, A, Q, ⟨hx, hb, hml, hown, hts, hR, hB, hS0, hA, hin, hE⟩, rfl⟩ := hG
  intro H locs ls hP hD hS hl
  exact lv_icmp_ge hx hb hd ht (fun q => absurd q hc0) (fun _ => kk H locs ls hP hD hS hl)
theorem ci_goto (hG : ci_Cl nm cc nL own h kc ks k ad E G) {off : Int} {tgt : Nat} (hd : decode cc pc = .ok (.goto off, 3)) (ht : (pc : Int) + off = (tgt : Int)) (kk : G ws cells slots tgt L st) : G ws cells slots pc L st := by
  obtain ⟨p, l, e, R, s, m, args, below, meth, c, D, A, Q, ⟨hx, hb, hml, hown, hts, hR, hB, hS0, hA, hin, hE⟩, rfl⟩ := hG
  intro H locs ls hP hD hS hl
  exact lv_goto hx hb hd ht (kk H locs ls hP hD hS hl)
theorem ci_obj (hG : ci_Cl nm cc nL own h kc ks k ad E G) {idx q : Nat} (hd : decode cc pc = .ok (.invokespecial idx, 3)) (hw : Cond.methodLink own idx objectInit ∈ gg_tG) (hi : Cond.instanceMethod objectInit ∈ gg_tG) (hc : Cond.code objectInit ⟨#[0xb1]⟩ 1 none ∈ gg_tG) (hh : 1 ≤ h) (kk : G ws cells slots (pc + 3) L []) : G ws cells slots pc L [.ref q] := by
  obtain ⟨p, l, e, R, s, m, args, below, meth, c, D, A, Q, ⟨hx, hb, hml, hown, hts, hR, hB, hS0, hA, hin, hE⟩, rfl⟩ := hG
  intro H locs ls hP hD hS hl
  have h1 : 1 ≤ R.frames := Nat.le_trans hh hR.1
  have h2 : 64 ≤ R.locals := Nat.le_trans (by omega) hR.2.1
  refine W.objInit hx hb hown (hts _ hw) (hts _ hi) (hts _ hc) rfl (by rw [hml]; exact hl.1) rfl hd h1 (Nat.le_trans (Nat.le_of_ble_eq_true rfl : _ ≤ 64) h2) ?_
  exact W.eq (g2 := F0 m (pc + 3) ls []) rfl (kk H locs ls hP hD hS hl)
theorem ci_max (hG : ci_Cl nm cc nL own h kc ks k ad E G) {idx : Nat} {x y v : Int32} (hd : decode cc pc = .ok (.invokestatic idx, 3)) (hw : Cond.methodLink own idx Lib.Math.max.name ∈ gg_tG) (hs : Cond.static Lib.Math.max.name ∈ gg_tG) (hi : Cond.initialized "java/lang/Math" ∈ gg_tG) (hc : Cond.code Lib.Math.max.name Lib.Math.max.code 2 (some .int) ∈ gg_tG) (hh : 1 ≤ h) (hst : (st.map fun v => v.category).sum ≤ 8) (hcs : cells ≤ kc ∧ slots ≤ ks) (hv : (if x < y then y else x) = v) (kk : G ws cells slots (pc + 3) L (.int v :: st)) : G ws cells slots pc L (.int y :: .int x :: st) := by
  obtain ⟨p, l, e, R, s, m, args, below, meth, c, D, A, Q, ⟨hx, hb, hml, hown, hts, hR, hB, hS0, hA, hin, hE⟩, rfl⟩ := hG
  intro H locs ls hP hD hS hl
  have h1 : 1 ≤ R.frames := Nat.le_trans hh hR.1
  have h2 : 64 ≤ R.locals := Nat.le_trans (by omega) hR.2.1
  subst hv
  exact va_mmax hx hb (hml.trans hl.1.symm) hown (hts _ hw) (hts _ hs) (hts _ hi) (hts _ hc) h1 (by omega) (Nat.le_trans hcs.1 hR.2.2.1) (Nat.le_trans hcs.2 hR.2.2.2) hd (kk H locs ls hP hD hS hl)
theorem ci_newi (hG : ci_Cl nm cc nL own h kc ks k ad E G) {n : Int32} (N : Nat) {w2 : Nat → va_W} (hd : decode cc pc = .ok (.newarray .int, 2)) (hw : Cond.arrayClass .int ∈ gg_tG) (hn : ¬ n < 0) (hN : n.toNatClampNeg = N) (hb1 : N * componentBytes .int ≤ 536870912) (hcs : cells + 1 ≤ kc ∧ slots + N ≤ ks) (h2 : ∀ q, ws ++ [(q, .inl (k 0, N, .inl (fun _ => 0)))] = w2 q) (kk : ∀ q, G (w2 q) (cells + 1) (slots + N) (pc + 2) L (.ref q :: st)) : G ws cells slots pc L (.int n :: st) := by
  obtain ⟨p, l, e, R, s, m, args, below, meth, c, D, A, Q, ⟨hx, hb, hml, hown, hts, hR, hB, hS0, hA, hin, hE⟩, rfl⟩ := hG
  intro H locs ls hP hD hS hl
  refine va_newa (atype := .int) (ty := .int) (a0 := (N, .inl (fun _ => 0))) hx hb (hts _ hw) rfl hB.1 hP hD hS hA (fun cA => rfl) hn hN hb1 (Nat.le_trans hcs.1 hR.2.2.1) (Nat.le_trans hcs.2 hR.2.2.2) hd (fun q cA H1 hK1 hP1 hD1 hS1 => ?_)
  have e1 : s.vm.findClass ("[" ++ (FieldType.toString .int)) = some cA := (hK1.2 5 (cA, .int) rfl).2
  have e2 : s.vm.findClass ("[" ++ (FieldType.toString .int)) = some (k 0) := (hB.1.2 0 (k 0, .int) rfl).2
  cases Option.some.inj (e1.symm.trans e2)
  have hP1 : va_P D gg_cls (w2 q) H1 := by rw [← h2 q]; exact hP1
  have hD1 : va_D A (w2 q) := by rw [← h2 q]; exact hD1
  exact kk q H1 locs ls hP1 hD1 hS1 hl
theorem ci_newl (hG : ci_Cl nm cc nL own h kc ks k ad E G) {n : Int32} (N : Nat) {w2 : Nat → va_W} (hd : decode cc pc = .ok (.newarray .long, 2)) (hw : Cond.arrayClass .long ∈ gg_tG) (hn : ¬ n < 0) (hN : n.toNatClampNeg = N) (hb1 : N * componentBytes .long ≤ 536870912) (hcs : cells + 1 ≤ kc ∧ slots + N ≤ ks) (h2 : ∀ q, ws ++ [(q, .inl (k 1, N, .inr (.inl (fun _ => 0))))] = w2 q) (kk : ∀ q, G (w2 q) (cells + 1) (slots + N) (pc + 2) L (.ref q :: st)) : G ws cells slots pc L (.int n :: st) := by
  obtain ⟨p, l, e, R, s, m, args, below, meth, c, D, A, Q, ⟨hx, hb, hml, hown, hts, hR, hB, hS0, hA, hin, hE⟩, rfl⟩ := hG
  intro H locs ls hP hD hS hl
  refine va_newa (atype := .long) (ty := .long) (a0 := (N, .inr (.inl (fun _ => 0)))) hx hb (hts _ hw) rfl hB.1 hP hD hS hA (fun cA => rfl) hn hN hb1 (Nat.le_trans hcs.1 hR.2.2.1) (Nat.le_trans hcs.2 hR.2.2.2) hd (fun q cA H1 hK1 hP1 hD1 hS1 => ?_)
  have e1 : s.vm.findClass ("[" ++ (FieldType.toString .long)) = some cA := (hK1.2 5 (cA, .long) rfl).2
  have e2 : s.vm.findClass ("[" ++ (FieldType.toString .long)) = some (k 1) := (hB.1.2 1 (k 1, .long) rfl).2
  cases Option.some.inj (e1.symm.trans e2)
  have hP1 : va_P D gg_cls (w2 q) H1 := by rw [← h2 q]; exact hP1
  have hD1 : va_D A (w2 q) := by rw [← h2 q]; exact hD1
  exact kk q H1 locs ls hP1 hD1 hS1 hl
theorem ci_newz (hG : ci_Cl nm cc nL own h kc ks k ad E G) {n : Int32} (N : Nat) {w2 : Nat → va_W} (hd : decode cc pc = .ok (.newarray .boolean, 2)) (hw : Cond.arrayClass .boolean ∈ gg_tG) (hn : ¬ n < 0) (hN : n.toNatClampNeg = N) (hb1 : N * componentBytes .boolean ≤ 536870912) (hcs : cells + 1 ≤ kc ∧ slots + N ≤ ks) (h2 : ∀ q, ws ++ [(q, .inl (k 2, N, .inl (fun _ => 0)))] = w2 q) (kk : ∀ q, G (w2 q) (cells + 1) (slots + N) (pc + 2) L (.ref q :: st)) : G ws cells slots pc L (.int n :: st) := by
  obtain ⟨p, l, e, R, s, m, args, below, meth, c, D, A, Q, ⟨hx, hb, hml, hown, hts, hR, hB, hS0, hA, hin, hE⟩, rfl⟩ := hG
  intro H locs ls hP hD hS hl
  refine va_newa (atype := .boolean) (ty := .boolean) (a0 := (N, .inl (fun _ => 0))) hx hb (hts _ hw) rfl hB.1 hP hD hS hA (fun cA => rfl) hn hN hb1 (Nat.le_trans hcs.1 hR.2.2.1) (Nat.le_trans hcs.2 hR.2.2.2) hd (fun q cA H1 hK1 hP1 hD1 hS1 => ?_)
  have e1 : s.vm.findClass ("[" ++ (FieldType.toString .boolean)) = some cA := (hK1.2 5 (cA, .boolean) rfl).2
  have e2 : s.vm.findClass ("[" ++ (FieldType.toString .boolean)) = some (k 2) := (hB.1.2 2 (k 2, .boolean) rfl).2
  cases Option.some.inj (e1.symm.trans e2)
  have hP1 : va_P D gg_cls (w2 q) H1 := by rw [← h2 q]; exact hP1
  have hD1 : va_D A (w2 q) := by rw [← h2 q]; exact hD1
  exact kk q H1 locs ls hP1 hD1 hS1 hl
theorem ci_newq (hG : ci_Cl nm cc nL own h kc ks k ad E G) {n : Int32} {idx : Nat} (N : Nat) {w2 : Nat → va_W} (hd : decode cc pc = .ok (.anewarray idx, 3)) (hw : Cond.classLink own idx RX6 ∈ gg_tG) (hn : ¬ n < 0) (hN : n.toNatClampNeg = N) (hb1 : N * 4 ≤ 536870912) (hcs : cells + 1 ≤ kc ∧ slots + N ≤ ks) (h2 : ∀ q, ws ++ [(q, .inl (k 3, N, .inr (.inr (.inr (.inr (fun _ => none))))))] = w2 q) (kk : ∀ q, G (w2 q) (cells + 1) (slots + N) (pc + 3) L (.ref q :: st)) : G ws cells slots pc L (.int n :: st) := by
  obtain ⟨p, l, e, R, s, m, args, below, meth, c, D, A, Q, ⟨hx, hb, hml, hown, hts, hR, hB, hS0, hA, hin, hE⟩, rfl⟩ := hG
  intro H locs ls hP hD hS hl
  refine va_newq hx hb hown (hts _ hw) hB.2.2.1 hB.1 hP hD hS hA hn hN hb1 (Nat.le_trans hcs.1 hR.2.2.1) (Nat.le_trans hcs.2 hR.2.2.2) hd (fun q cA H1 hK1 hP1 hD1 hS1 => ?_)
  obtain ⟨kA, cm, -, -, -, e1⟩ := (hK1.2 5 (cA, .object RX6) rfl).2
  obtain ⟨kB, cm2, -, -, -, e2⟩ := (hB.1.2 3 (k 3, .object RX6) rfl).2
  cases Option.some.inj (e1.symm.trans e2)
  have hP1 : va_P D gg_cls (w2 q) H1 := by rw [← h2 q]; exact hP1
  have hD1 : va_D A (w2 q) := by rw [← h2 q]; exact hD1
  exact kk q H1 locs ls hP1 hD1 hS1 hl
theorem ci_mna (hG : ci_Cl nm cc nL own h kc ks k ad E G) {idx : Nat} {w2 : Nat → Nat → Nat → Nat → va_W} (hd : decode cc pc = .ok (.multianewarray idx 2, 4)) (hw : Cond.classLink own idx "[[I" ∈ gg_tG) (hw2 : Cond.arrayClass .int ∈ gg_tG) (hcs : cells + 4 ≤ kc ∧ slots + 24 ≤ ks) (h2 : ∀ q a b c, ws ++ [(q, .inl (k 4, 3, .inr (.inr (.inr (.inr (fun i => [some a, some b, some c].getD i none)))))), (a, .inl (k 0, 7, .inl (fun _ => 0))), (b, .inl (k 0, 7, .inl (fun _ => 0))), (c, .inl (k 0, 7, .inl (fun _ => 0)))] = w2 q a b c) (kk : ∀ q a b c, G (w2 q a b c) (cells + 4) (slots + 24) (pc + 4) L (.ref q :: st)) : G ws cells slots pc L (.int 7 :: .int 3 :: st) := by
  obtain ⟨p, l, e, R, s, m, args, below, meth, c, D, A, Q, ⟨hx, hb, hml, hown, hts, hR, hB, hS0, hA, hin, hE⟩, rfl⟩ := hG
  intro H locs ls hP hD hS hl
  have e2 : s.vm.findClass (FieldType.array .int).toString = some (k 0) := (hB.1.2 0 (k 0, .int) rfl).2
  refine va_mna (X := ws) (L := []) (f := fun _ => .inr (0, [])) (ty := .int) (cy := k 0) (N' := 3) (K' := 7) (z := (7, .inl (fun _ => 0))) hx hb hown (hts _ hw) hB.2.2.2 (hts _ hw2) e2 hB.1 (by rw [show va_pl [] (fun _ => (.inr (0, []) : va_E)) = [] from rfl, List.append_nil]; exact hP) (by rw [show va_pl [] (fun _ => (.inr (0, []) : va_E)) = [] from rfl, List.append_nil]; exact hD) hS hA (by decide) (by decide) (by decide) (by decide) (Nat.le_of_ble_eq_true rfl) (Nat.le_of_ble_eq_true rfl) (Nat.le_of_ble_eq_true rfl) (by decide) (by decide) (Nat.le_trans hcs.1 hR.2.2.1) (Nat.le_trans hcs.2 hR.2.2.2) (fun c => ?_) hd (fun q r cA H1 hr _ hK1 hP1 hD1 hS1 => ?_)
  · show ({ cls := c, slots := Array.replicate 7 (.int 0), vm := .none } : Cell) = _
    rw [arrV_new]
    rfl
  · have e3 : s.vm.findClass ("[" ++ (FieldType.array .int).toString) = some cA := (hK1.2 5 (cA, .array .int) rfl).2
    have e4 : s.vm.findClass ("[" ++ (FieldType.array .int).toString) = some (k 4) := (hB.1.2 4 (k 4, .array .int) rfl).2
    cases Option.some.inj (e3.symm.trans e4)
    have ef : (fun i => if i < 3 then some (r i) else none) = (fun i => [some (r 0), some (r 1), some (r 2)].getD i none) := funext fun i => by
      match i with
      | 0 => rfl
      | 1 => rfl
      | 2 => rfl
      | i + 3 => rw [if_neg (by omega)]; rfl
    have ew : (ws ++ [(q, (.inl (k 4, 3, .inr (.inr (.inr (.inr (fun i => if i < 3 then some (r i) else none))))) : va_E))]) ++ va_pl ([] ++ (List.range 3).map r) (vr_up (fun _ => (.inr (0, []) : va_E)) ((List.range 3).map r) (.inl (k 0, (7, .inl (fun _ => 0))))) = w2 q (r 0) (r 1) (r 2) := by
      rw [← h2 q (r 0) (r 1) (r 2), ef, List.append_assoc]
      refine congrArg (ws ++ ·) ?_
      have e5 : ∀ a, a ∈ (List.range 3).map r → vr_up (fun _ => (.inr (0, []) : va_E)) ((List.range 3).map r) (.inl (k 0, (7, .inl (fun _ => 0)))) a = .inl (k 0, (7, .inl (fun _ => 0))) := fun a ha => vr_up_in ha
      have f0 := e5 (r 0) (List.mem_map.mpr ⟨0, by decide, rfl⟩)
      have f1 := e5 (r 1) (List.mem_map.mpr ⟨1, by decide, rfl⟩)
      have f2 := e5 (r 2) (List.mem_map.mpr ⟨2, by decide, rfl⟩)
      show _ :: [(r 0, vr_up (fun _ => (.inr (0, []) : va_E)) ((List.range 3).map r) (.inl (k 0, (7, .inl (fun _ => 0)))) (r 0)), (r 1, vr_up (fun _ => (.inr (0, []) : va_E)) ((List.range 3).map r) (.inl (k 0, (7, .inl (fun _ => 0)))) (r 1)), (r 2, vr_up (fun _ => (.inr (0, []) : va_E)) ((List.range 3).map r) (.inl (k 0, (7, .inl (fun _ => 0)))) (r 2))] = _
      rw [f0, f1, f2]
    rw [ew] at hP1 hD1
    exact kk q (r 0) (r 1) (r 2) H1 locs ls hP1 hD1 hS1 hl
theorem ci_new (hG : ci_Cl nm cc nL own h kc ks k ad E G) {idx ci : Nat} {r : vw_C} {fs : List Value} {w2 : Nat → va_W} (hd : decode cc pc = .ok (.new idx, 3)) (hc : gg_cls[ci]? = some r) (hw : Cond.classLink own idx r.1 ∈ gg_tG) (hw2 : Cond.instantiable r.1 r.2.2 ∈ gg_tG) (hw3 : Cond.initialized r.1 ∈ gg_tG) (hfs : ∀ j, j < r.2.2 → defaultValue (gg_ft ci j) = vp_V fs j) (hcs : cells + 1 ≤ kc ∧ slots + r.2.2 ≤ ks) (h2 : ∀ q, ws ++ [(q, .inr (ci, fs))] = w2 q) (kk : ∀ q, G (w2 q) (cells + 1) (slots + r.2.2) (pc + 3) L (.ref q :: st)) : G ws cells slots pc L st := by
  obtain ⟨p, l, e, R, s, m, args, below, meth, c, D, A, Q, ⟨hx, hb, hml, hown, hts, hR, hB, hS0, hA, hin, hE⟩, rfl⟩ := hG
  intro H locs ls hP hD hS hl
  obtain ⟨-, -, hin2, hty, -⟩ := gg_clsF hc
  refine va_new hx hb (C := r.1) (T := r.2.1) (N := r.2.2) hts hin2 (gg_ft ci) hty hown (hts _ hw) (hts _ hw2) (hts _ hw3) hB.1 hP hD hS hA hc hfs (Nat.le_trans hcs.1 hR.2.2.1) (Nat.le_trans hcs.2 hR.2.2.2) hd (fun q H1 hP1 hD1 hS1 => ?_)
  rw [h2 q] at hP1 hD1
  exact kk q H1 locs ls hP1 hD1 hS1 hl
theorem ci_putF (hG : ci_Cl nm cc nL own h kc ks k ad E G) {idx ci a : Nat} {r : vw_C} {fs : List Value} {v : Value} {w2 : va_W} (q0 j : Nat) (hd : decode cc pc = .ok (.putfield idx, 3)) (hc : gg_cls[ci]? = some r) (he : ws[q0]? = some (a, .inr (ci, fs))) (hj : j < r.2.2) (hw : Cond.fieldLink own idx (r.2.1 j).1 (r.2.1 j).2.1 (r.2.1 j).2.2.1 ∈ gg_tG) (hf : (r.2.1 j).2.2.2 = true) (hn2 : nm = "<init>") (ho : (r.2.1 j).1 = own) (hn1 : narrow (gg_ft ci j) v = v) (hft : fits (gg_ft ci j) v = true) (hfl : j < fs.length) (h2 : ws.set q0 (a, .inr (ci, fs.set j v)) = w2) (kk : G w2 cells slots (pc + 3) L st) : G ws cells slots pc L (v :: .ref a :: st) := by
  obtain ⟨p, l, e, R, s, m, args, below, meth, c, D, A, Q, ⟨hx, hb, hml, hown, hts, hR, hB, hS0, hA, hin, hE⟩, rfl⟩ := hG
  intro H locs ls hP hD hS hl
  obtain ⟨-, -, hin2, hty, hnm⟩ := gg_clsF hc
  refine va_putF hx hb (C := r.1) (T := r.2.1) (N := r.2.2) (ci := ci) hts hin2 (gg_ft ci) hty hnm hown hB.1 hP hD hS q0 he hc j hj (hts _ hw) (fun _ z => z) hf (hin.trans hn2) ho (hty j hj) hn1 hft hfl hd (fun H1 locs1 hP1 hD1 hS1 => ?_)
  rw [h2] at hP1 hD1
  exact kk H1 locs1 ls hP1 hD1 hS1 hl
theorem ci_put (hG : ci_Cl nm cc nL own h kc ks k ad E G) {idx ci a : Nat} {r : vw_C} {fs : List Value} {v : Value} {w2 : va_W} (q0 j : Nat) (hd : decode cc pc = .ok (.putfield idx, 3)) (hc : gg_cls[ci]? = some r) (he : ws[q0]? = some (a, .inr (ci, fs))) (hj : j < r.2.2) (hw : Cond.fieldLink own idx (r.2.1 j).1 (r.2.1 j).2.1 (r.2.1 j).2.2.1 ∈ gg_tG) (hf : (r.2.1 j).2.2.2 = false) (hn1 : narrow (gg_ft ci j) v = v) (hft : fits (gg_ft ci j) v = true) (hfl : j < fs.length) (h2 : ws.set q0 (a, .inr (ci, fs.set j v)) = w2) (kk : G w2 cells slots (pc + 3) L st) : G ws cells slots pc L (v :: .ref a :: st) := by
  obtain ⟨p, l, e, R, s, m, args, below, meth, c, D, A, Q, ⟨hx, hb, hml, hown, hts, hR, hB, hS0, hA, hin, hE⟩, rfl⟩ := hG
  intro H locs ls hP hD hS hl
  obtain ⟨-, -, hin2, hty, hnm⟩ := gg_clsF hc
  refine va_put hx hb (C := r.1) (T := r.2.1) (N := r.2.2) (ci := ci) hts hin2 (gg_ft ci) hty hnm hown hB.1 hP hD hS q0 he hc j hj (hts _ hw) (fun _ z => z) hf (hty j hj) hn1 hft hfl hd (fun H1 locs1 hP1 hD1 hS1 => ?_)
  rw [h2] at hP1 hD1
  exact kk H1 locs1 ls hP1 hD1 hS1 hl
theorem ci_get (hG : ci_Cl nm cc nL own h kc ks k ad E G) {idx ci a : Nat} {r : vw_C} {fs : List Value} {v : Value} (q0 j : Nat) (hd : decode cc pc = .ok (.getfield idx, 3)) (hc : gg_cls[ci]? = some r) (he : ws[q0]? = some (a, .inr (ci, fs))) (hj : j < r.2.2) (hw : Cond.fieldLink own idx (r.2.1 j).1 (r.2.1 j).2.1 (r.2.1 j).2.2.1 ∈ gg_tG) (hv : fs[j]? = some v) (kk : G ws cells slots (pc + 3) L (v :: st)) : G ws cells slots pc L (.ref a :: st) := by
  obtain ⟨p, l, e, R, s, m, args, below, meth, c, D, A, Q, ⟨hx, hb, hml, hown, hts, hR, hB, hS0, hA, hin, hE⟩, rfl⟩ := hG
  intro H locs ls hP hD hS hl
  obtain ⟨-, -, hin2, hty, hnm⟩ := gg_clsF hc
  exact va_get hx hb (C := r.1) (T := r.2.1) (N := r.2.2) (ci := ci) hts hin2 hown hB.1 hP q0 he hc j hj (hts _ hw) (fun _ z => z) hv hd (kk H locs ls hP hD hS hl)
theorem ci_iast (hG : ci_Cl nm cc nL own h kc ks k ad E G) {a n : Nat} {f : Nat → Int32} {i x : Int32} {w2 : va_W} (q0 : Nat) (hd : decode cc pc = .ok (.iastore, 1)) (he : ws[q0]? = some (a, .inl (k 0, n, .inl f))) (hi : vp_in i n) (h2 : ws.set q0 (a, .inl (k 0, n, .inl (upd f i.toNatClampNeg x))) = w2) (kk : G w2 cells slots (pc + 1) L st) : G ws cells slots pc L (.int x :: .int i :: .ref a :: st) := by
  obtain ⟨p, l, e, R, s, m, args, below, meth, c, D, A, Q, ⟨hx, hb, hml, hown, hts, hR, hB, hS0, hA, hin, hE⟩, rfl⟩ := hG
  intro H locs ls hP hD hS hl
  refine va_iast hx hb hB.1 hP hD hS q0 0 he rfl hi hd (fun H1 locs1 hP1 hD1 hS1 => ?_)
  rw [h2] at hP1 hD1
  exact kk H1 locs1 ls hP1 hD1 hS1 hl
theorem ci_astq (hG : ci_Cl nm cc nL own h kc ks k ad E G) {a n v : Nat} {f : Nat → Option Nat} {vs : List Value} {i : Int32} {w2 : va_W} (q0 qk : Nat) (hd : decode cc pc = .ok (.aastore, 1)) (he : ws[q0]? = some (a, .inl (k 3, n, .inr (.inr (.inr (.inr f)))))) (hv : ws[qk]? = some (v, .inr (6, vs))) (hi : vp_in i n) (h2 : ws.set q0 (a, .inl (k 3, n, .inr (.inr (.inr (.inr (va_up f i.toNatClampNeg (some v))))))) = w2) (kk : G w2 cells slots (pc + 1) L st) : G ws cells slots pc L (.ref v :: .int i :: .ref a :: st) := by
  obtain ⟨p, l, e, R, s, m, args, below, meth, c, D, A, Q, ⟨hx, hb, hml, hown, hts, hR, hB, hS0, hA, hin, hE⟩, rfl⟩ := hG
  intro H locs ls hP hD hS hl
  refine va_astq (r := (RX6, TX6, 3)) hx hb hB.1 hP hD hS q0 3 qk 6 he rfl hv rfl hi hd (fun H1 locs1 hP1 hD1 hS1 => ?_)
  rw [h2] at hP1 hD1
  exact kk H1 locs1 ls hP1 hD1 hS1 hl
theorem ci_gets (hG : ci_Cl nm cc nL own h kc ks k ad E G) {k0 idx : Nat} (hd : decode cc pc = .ok (.getstatic idx, 3)) (hk : k0 < 5) (hw : Cond.fieldLink own idx (gg_sn k0).1 (gg_sn k0).2.1 (gg_sn k0).2.2 ∈ gg_tG) (kk : G ws cells slots (pc + 3) L (.ref (ad (100 + k0)) :: st)) : G ws cells slots pc L st := by
  obtain ⟨p, l, e, R, s, m, args, below, meth, c, D, A, Q, ⟨hx, hb, hml, hown, hts, hR, hB, hS0, hA, hin, hE⟩, rfl⟩ := hG
  intro H locs ls hP hD hS hl
  exact va_gets hx hb (hS0 k0 hk).1 hS hown (hts _ hw) (fun _ z => z) hd (kk H locs ls hP hD hS hl)
theorem ci_ti (hG : ci_Cl nm cc nL own h kc ks k ad E G) {k0 : Nat} {i x : Int32} (hd : decode cc pc = .ok (.iaload, 1)) (hk : k0 < 5) (hty : gg_st k0 = .int) (hi : vp_in i (gg_sl k0)) (hv : gg_sv k0 i.toNatClampNeg = x) (kk : G ws cells slots (pc + 1) L (.int x :: st)) : G ws cells slots pc L (.int i :: .ref (ad (100 + k0)) :: st) := by
  obtain ⟨p, l, e, R, s, m, args, below, meth, c, D, A, Q, ⟨hx, hb, hml, hown, hts, hR, hB, hS0, hA, hin, hE⟩, rfl⟩ := hG
  intro H locs ls hP hD hS hl
  subst hv
  have hT := (hS0 k0 hk).2
  rw [hty] at hT
  exact va_ti hx hb hT hS hi rfl hd (kk H locs ls hP hD hS hl)
theorem ci_ret (hG : ci_Cl nm cc nL own h kc ks k ad E G)  (hd : decode cc pc = .ok (.return_, 1)) (hcs : cells = kc ∧ slots = ks) (kk : E ws) : G ws cells slots pc L [] := by
  obtain ⟨p, l, e, R, s, m, args, below, meth, c, D, A, Q, ⟨hx, hb, hml, hown, hts, hR, hB, hS0, hA, hin, hE⟩, rfl⟩ := hG
  intro H locs ls hP hD hS hl
  obtain ⟨rfl, rfl⟩ := hcs
  exact hE H locs ls pc ws hP hD hS kk hd
theorem ci_call (hG : ci_Cl nm cc nL own h kc ks k ad E G) {idx nLy n h1 kc1 ks1 q : Nat} {y : MethodName} {cy : ByteArray} {As sk : List Value} {wr wc : va_W} {E1 : va_W → Prop} (hd : decode cc pc = .ok (.invokespecial idx, 3)) (hw : Cond.methodLink own idx y ∈ gg_tG) (hY : gg_Y y cy nLy none n) (hy1 : y.name = "<init>") (hi : Cond.instanceMethod y ∈ gg_tG) (hM : ci_Mt h1 kc1 ks1 y cy nLy (.ref q :: As) wc k E1) (hn : As.length = n) (hh : h1 < h) (hcs : cells + kc1 ≤ kc ∧ slots + ks1 ≤ ks) (hc : (st.map fun v => v.category).sum ≤ 8) (hs : sk = As.reverse ++ .ref q :: st) (hw0 : ws = wr ++ wc) (kk : ∀ w1, E1 w1 → G (wr ++ w1) (cells + kc1) (slots + ks1) (pc + 3) L st) : G ws cells slots pc L sk := by
  obtain ⟨p, l, e, R, s, m, args, below, meth, c, D, A, Q, ⟨hx, hb, hml, hown, hts, hR, hB, hS0, hA, hin, hE⟩, rfl⟩ := hG
  intro H locs ls hP hD hS hl
  subst hs hw0
  have hws : ∀ w ∈ (Cond.code y cy nLy none :: gg_tG), w ∈ gg_tG ∧ ((w.onTables && w.keeps) = true ∨ ∃ ty, w = .arrayClass ty) := fun w hw => by
    have hw2 : w ∈ gg_tG := (List.mem_cons.mp hw).elim (fun e => e ▸ hY.1) id
    exact ⟨hw2, good_of_word (List.mem_filter.mp hw2).2⟩
  have hF := ci_freeA hD hS hA
  have hU : ∀ U : State, U.heap = H → s.WarmedH U.vm → ci_Pre D k ad wc H.size U := fun U hUh hUW => by
    refine ⟨by rw [hUh], by rw [hUh]; exact ci_tailP hP, hB.warm hUW, ?_, ci_tail hD⟩
    rw [hUh]
    exact ((hS0.kept (fun a h1 h2 => hS.2.1 a h1 h2)).moved hUW.alike).narrow hF
  have hroom : h1 + 1 ≤ R.frames ∧ 8 + (nLy + 11) + 64 * h1 ≤ R.locals := ⟨Nat.le_trans hh hR.1, Nat.le_trans (by show 8 + (nLy + 11) + 64 * h1 ≤ 64 * h; have := hY.2.2.2.2; omega) hR.2.1⟩
  refine va_callv (va_runI (As := As) (rest := st) (n := n) (Ts := gg_tG) ⟨hx, hb, hml, hown, hts⟩ (hM l D ad H.size) ⟨⟨rfl, rfl, hroom.1, hroom.2, pay_in hts hws, List.mem_cons_self, hts _ hY.1, hts _ hY.2.1, ⟨hY.2.2.1.1, hY.2.2.1.2⟩, fun sig hsg => hY.2.2.2.1 sig hsg, hts _ hw⟩, hy1, hts _ hi⟩ ⟨ci_blind D k ad wc H.size (.ref q :: As), fun U h1 h2 => ⟨rfl, hU U h1 h2⟩⟩ rfl hn hl.1 rfl (lv_room hc) hd ⟨Nat.le_trans hcs.1 hR.2.2.1, Nat.le_trans hcs.2 hR.2.2.2⟩) hS (fun q _ h => hF q h) hF (fun w1 t H1 locs1 ht hvm hp hB1 hz1 hk1 hS1 => ?_)
  obtain ⟨hP1, hD1⟩ := hB1
  rw [ht] at hP1
  obtain ⟨hP2, hD2⟩ := ci_join hP hD hk1 hF hP1 hD1
  exact kk w1 hp H1 locs1 ls hP2 hD2 hS1 hl
theorem ci_callN (hG : ci_Cl nm cc nL own h kc ks k ad E G) {idx nLy n h1 kc1 ks1 q : Nat} {y : MethodName} {cy : ByteArray} {As sk : List Value} {wr wc : va_W} {E1 : va_W → Prop} (hd : decode cc pc = .ok (.invokespecial idx, 3)) (hw : (own, idx, y, RX10) ∈ gg_nw) (hY : gg_Y y cy nLy none n) (hy1 : y.name = "<init>") (hi : Cond.instanceMethod y ∈ gg_tG) (hM : ci_Mt h1 kc1 ks1 y cy nLy (.ref q :: As) wc k E1) (hn : As.length = n) (hh : h1 < h) (hcs : cells + kc1 ≤ kc ∧ slots + ks1 ≤ ks) (hc : (st.map fun v => v.category).sum ≤ 8) (hs : sk = As.reverse ++ .ref q :: st) (hw0 : ws = wr ++ wc) (kk : ∀ w1, E1 w1 → G (wr ++ w1) (cells + kc1) (slots + ks1) (pc + 3) L st) : G ws cells slots pc L sk := by
  obtain ⟨p, l, e, R, s, m, args, below, meth, c, D, A, Q, ⟨hx, hb, hml, hown, hts, hR, hB, hS0, hA, hin, hE⟩, rfl⟩ := hG
  intro H locs ls hP hD hS hl
  subst hs hw0
  have hws : ∀ w ∈ (Cond.code y cy nLy none :: gg_tG), w ∈ gg_tG ∧ ((w.onTables && w.keeps) = true ∨ ∃ ty, w = .arrayClass ty) := fun w hw => by
    have hw2 : w ∈ gg_tG := (List.mem_cons.mp hw).elim (fun e => e ▸ hY.1) id
    exact ⟨hw2, good_of_word (List.mem_filter.mp hw2).2⟩
  have hF := ci_freeA hD hS hA
  have hU : ∀ U : State, U.heap = H → s.WarmedH U.vm → ci_Pre D k ad wc H.size U := fun U hUh hUW => by
    refine ⟨by rw [hUh], by rw [hUh]; exact ci_tailP hP, hB.warm hUW, ?_, ci_tail hD⟩
    rw [hUh]
    exact ((hS0.kept (fun a h1 h2 => hS.2.1 a h1 h2)).moved hUW.alike).narrow hF
  have hroom : h1 + 1 ≤ R.frames ∧ 8 + (nLy + 11) + 64 * h1 ≤ R.locals := ⟨Nat.le_trans hh hR.1, Nat.le_trans (by show 8 + (nLy + 11) + 64 * h1 ≤ 64 * h; have := hY.2.2.2.2; omega) hR.2.1⟩
  refine va_callv (va_runIN (As := As) (rest := st) (n := n) (Ts := gg_tG) (host := RX10) ⟨hx, hb, hml, hown, hts⟩ (hM l D ad H.size) ⟨⟨⟨rfl, rfl, hroom.1, hroom.2, pay_in hts hws, List.mem_cons_self⟩, hts _ hY.1, hts _ hY.2.1, ⟨hY.2.2.1.1, hY.2.2.1.2⟩, fun sig hsg => hY.2.2.2.1 sig hsg, va_Nw.use rfl (hB.2.1 _ hw)⟩, hy1, hts _ hi⟩ ⟨ci_blind D k ad wc H.size (.ref q :: As), fun U h1 h2 => ⟨rfl, hU U h1 h2⟩⟩ rfl hn hl.1 rfl (lv_room hc) hd ⟨Nat.le_trans hcs.1 hR.2.2.1, Nat.le_trans hcs.2 hR.2.2.2⟩) hS (fun q _ h => hF q h) hF (fun w1 t H1 locs1 ht hvm hp hB1 hz1 hk1 hS1 => ?_)
  obtain ⟨hP1, hD1⟩ := hB1
  rw [ht] at hP1
  obtain ⟨hP2, hD2⟩ := ci_join hP hD hk1 hF hP1 hD1
  exact kk w1 hp H1 locs1 ls hP2 hD2 hS1 hl
theorem ci_callv (hG : ci_Cl nm cc nL own h kc ks k ad E G) {idx nLy n h1 kc1 ks1 q : Nat} {y : MethodName} {cy : ByteArray} {As sk : List Value} {wr wc : va_W} {E1 : va_W → Prop} (hd : decode cc pc = .ok (.invokevirtual idx, 3)) (hw : Cond.methodLink own idx y ∈ gg_tG) (hY : gg_Y y cy nLy none n) (hV : gg_YV y) (he : ∃ (i : Nat) (fs : List Value) (ci : Nat) (r : vw_C), ws[i]? = some (q, .inr (ci, fs)) ∧ gg_cls[ci]? = some r ∧ r.1 = y.cls) (hM : ci_Mt h1 kc1 ks1 y cy nLy (.ref q :: As) wc k E1) (hn : As.length = n) (hh : h1 < h) (hcs : cells + kc1 ≤ kc ∧ slots + ks1 ≤ ks) (hc : (st.map fun v => v.category).sum ≤ 8) (hs : sk = As.reverse ++ .ref q :: st) (hw0 : ws = wr ++ wc) (kk : ∀ w1, E1 w1 → G (wr ++ w1) (cells + kc1) (slots + ks1) (pc + 3) L st) : G ws cells slots pc L sk := by
  obtain ⟨p, l, e, R, s, m, args, below, meth, c, D, A, Q, ⟨hx, hb, hml, hown, hts, hR, hB, hS0, hA, hin, hE⟩, rfl⟩ := hG
  intro H locs ls hP hD hS hl
  subst hs hw0
  have hws : ∀ w ∈ (Cond.code y cy nLy none :: gg_tG), w ∈ gg_tG ∧ ((w.onTables && w.keeps) = true ∨ ∃ ty, w = .arrayClass ty) := fun w hw => by
    have hw2 : w ∈ gg_tG := (List.mem_cons.mp hw).elim (fun e => e ▸ hY.1) id
    exact ⟨hw2, good_of_word (List.mem_filter.mp hw2).2⟩
  have hF := ci_freeA hD hS hA
  have hU : ∀ U : State, U.heap = H → s.WarmedH U.vm → ci_Pre D k ad wc H.size U := fun U hUh hUW => by
    refine ⟨by rw [hUh], by rw [hUh]; exact ci_tailP hP, hB.warm hUW, ?_, ci_tail hD⟩
    rw [hUh]
    exact ((hS0.kept (fun a h1 h2 => hS.2.1 a h1 h2)).moved hUW.alike).narrow hF
  have hroom : h1 + 1 ≤ R.frames ∧ 8 + (nLy + 11) + 64 * h1 ≤ R.locals := ⟨Nat.le_trans hh hR.1, Nat.le_trans (by show 8 + (nLy + 11) + 64 * h1 ≤ 64 * h; have := hY.2.2.2.2; omega) hR.2.1⟩
  refine va_callv (va_runV (As := As) (rest := st) (n := n) (Ts := gg_tG) (b := q) (C := y.cls) ⟨hx, hb, hml, hown, hts⟩ (hM l D ad H.size) ⟨⟨rfl, rfl, hroom.1, hroom.2, pay_in hts hws, List.mem_cons_self, hts _ hY.1, hts _ hY.2.1, ⟨hY.2.2.1.1, hY.2.2.1.2⟩, fun sig hsg => hY.2.2.2.1 sig hsg, hts _ hw⟩, hts _ hV.1, hts _ hV.2⟩ ⟨ci_blind D k ad wc H.size (.ref q :: As), (by obtain ⟨i, fs, ci, r, g1, g2, g3⟩ := he; have hrec := va_recv hB.1 hP (ci := ci) (q0 := i) g2 g1; rw [g3] at hrec; exact hrec), fun U h1 h2 => ⟨rfl, hU U h1 h2⟩⟩ rfl hn hl.1 rfl (lv_room hc) hd ⟨Nat.le_trans hcs.1 hR.2.2.1, Nat.le_trans hcs.2 hR.2.2.2⟩) hS (fun q _ h => hF q h) hF (fun w1 t H1 locs1 ht hvm hp hB1 hz1 hk1 hS1 => ?_)
  obtain ⟨hP1, hD1⟩ := hB1
  rw [ht] at hP1
  obtain ⟨hP2, hD2⟩ := ci_join hP hD hk1 hF hP1 hD1
  exact kk w1 hp H1 locs1 ls hP2 hD2 hS1 hl
end CIR
