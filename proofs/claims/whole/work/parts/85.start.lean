/-! the start: what the tables give -/
theorem st_nw : ∀ q ∈ gg_nw, Cond.methodLinkNest q.1 q.2.1 q.2.2.1 q.2.2.2 ∈ lw_tbl := by decide +kernel
theorem st_lay : ∀ k, k < 5 → Cond.laysStatic (gg_sn k).1 (gg_sn k).2.1 (gg_sn k).2.2 ∈ lw_tbl := by decide +kernel
theorem st_in : ∀ k, k < 5 → Cond.initialized (gg_sn k).1 ∈ lw_tbl := by decide +kernel
theorem st_ar : ∀ k, k < 5 → Cond.arrayOf (.static (gg_sn k).1 (gg_sn k).2.1 (gg_sn k).2.2) (gg_st k) ∈ flatC (Jvm.Cond.and given_1 narrow_1) := by decide +kernel
theorem st_le : ∀ k, k < 5 → Cond.eq (.length (.static (gg_sn k).1 (gg_sn k).2.1 (gg_sn k).2.2)) (.int (Int32.ofNat (gg_sl k))) ∈ flatC (Jvm.Cond.and given_1 narrow_1) := by decide +kernel
theorem st_el : ∀ k, k < 5 → ∀ j, j < gg_sl k → Cond.eq (.elem (.static (gg_sn k).1 (gg_sn k).2.1 (gg_sn k).2.2) (.int (Int32.ofNat j))) (.int (gg_sv k j)) ∈ flatC (Jvm.Cond.and given_1 narrow_1) := by decide +kernel
theorem st_sl : ∀ k, k < 5 → gg_sl k < 2 ^ 31 := by decide +kernel
theorem st_S {args : Array Value} {s : State} {A : Nat → Prop} (hg : (Jvm.Cond.and given_1 narrow_1).before args s = true) (hts : ∀ w ∈ lw_tbl, w.before args s = true) (hA : ∀ a : Nat, a < s.heap.size → ¬ A a) (k : Nat) : ∃ t : Nat, k < 5 → va_Z (gg_sn k).1 (gg_sn k).2.1 (gg_sn k).2.2 (.ref t) A s s.heap ∧ va_T (gg_st k) t (gg_sl k) (fun j => .int (gg_sv k j)) A s s.heap := by
  by_cases hk : k < 5
  · have hs := flat_of_before _ hg
    obtain ⟨t, ht, hT⟩ := va_Tof (f := fun j => .int (gg_sv k j)) (A := A) (st_sl k hk) (hs _ (st_ar k hk)) (va_eqt (hs _ (st_le k hk))) (fun j hj => va_eqt (hs _ (st_el k hk j hj))) hA
    exact ⟨t, fun _ => ⟨va_Zref (hts _ (st_lay k hk)) (hts _ (st_in k hk)) ht hA, hT⟩⟩
  · exact ⟨0, fun h => absurd h hk⟩
theorem wn_X10 : Cond.instantiable RX10 12 ∈ gg_tG := (gg_in 70 (by decide +kernel) (by decide +kernel))
theorem wn_X11 : Cond.instantiable RX11 25 ∈ gg_tG := (gg_in 779 (by decide +kernel) (by decide +kernel))
theorem st_wn {c : Nat} {q : vw_C} (h : gg_cls[c]? = some q) : Cond.instantiable q.1 q.2.2 ∈ gg_tG := by
  match c, h with
  | 0, h => cases h; exact wn_X0
  | 1, h => cases h; exact wn_X1
  | 2, h => cases h; exact wn_X2
  | 3, h => cases h; exact wn_X3
  | 4, h => cases h; exact wn_X4
  | 5, h => cases h; exact wn_X5
  | 6, h => cases h; exact wn_X6
  | 7, h => cases h; exact wn_X7
  | 8, h => cases h; exact wn_X8
  | 9, h => cases h; exact wn_X9
  | 10, h => cases h; exact wn_X10
  | 11, h => cases h; exact wn_X11
  | k + 12, h => simp at h
theorem st_D {args : Array Value} {s : State} (hts : ∀ w ∈ gg_tG, w.before args s = true) : ∃ D : va_G, ∀ (c : Nat) (q : vw_C), gg_cls[c]? = some q → u_Kn s q.1 q.2.1 q.2.2 (D.1 c) (D.2 c) := by
  have h : ∀ c : Nat, ∃ d : ClassId × (Nat → Nat), ∀ q : vw_C, gg_cls[c]? = some q → u_Kn s q.1 q.2.1 q.2.2 d.1 d.2 := fun c => by
    cases hq : gg_cls[c]? with
    | none => exact ⟨((0 : Nat), fun _ => 0), fun q h => by cases h⟩
    | some r =>
      obtain ⟨cC, iS, hk⟩ := u_known hts (gg_clsF hq).2.2.1 (hts _ (st_wn hq))
      exact ⟨(cC, iS), fun q h => by cases h; exact hk⟩
  exact ⟨(fun c => (Classical.choose (h c)).1, fun c => (Classical.choose (h c)).2), fun c q hq => Classical.choose_spec (h c) q hq⟩
theorem st_ao : Cond.arrayOver (.object RX6) ∈ lw_tbl := List.mem_of_getElem? (i := 301) (by decide +kernel)
theorem st_aa : Cond.arrayOver (.array .int) ∈ lw_tbl := List.mem_of_getElem? (i := 174) (by decide +kernel)
theorem st_B {args : Array Value} {s : State} (hl : ∀ w ∈ lw_tbl, w.before args s = true) : ∃ (D : va_G) (k : Nat → ClassId), ci_B D k s := by
  have hts : ∀ w ∈ gg_tG, w.before args s = true := fun w hw => hl w (List.mem_filter.mp hw).1
  obtain ⟨D, hD⟩ := st_D hts
  have hAO : va_AO RX6 s := va_AO.of (hl _ st_ao)
  have hAA : va_AOA .int s := hl _ st_aa
  obtain ⟨c0, k0, m0, f0, g0, e0⟩ := Cond.arrayClass_spec (hts _ wd_int)
  obtain ⟨c1, k1, m1, f1, g1, e1⟩ := Cond.arrayClass_spec (hts _ wd_long)
  obtain ⟨c2, k2, m2, f2, g2, e2⟩ := Cond.arrayClass_spec (hts _ wd_boolean)
  obtain ⟨m3, c3, k3, j3, -, g3, e3, f3⟩ := Cond.arrayOver_spec hAO
  obtain ⟨m4, c4, k4, j4, -, g4, e4, f4⟩ := arrayOver_specB hAA
  refine ⟨D, fun i => [c0, c1, c2, c3, c4].getD i c0, ⟨hD, fun i q hq => ?_⟩, fun q hq => va_Nw.of rfl (hl _ (st_nw q hq)), hAO, hAA⟩
  match i, hq with
  | 0, hq => cases hq; exact ⟨fun n z => ⟨fun k h => (by cases h), k0, g0, m0, e0⟩, f0⟩
  | 1, hq => cases hq; exact ⟨fun n z => ⟨fun k h => (by cases h), k1, g1, m1, e1⟩, f1⟩
  | 2, hq => cases hq; exact ⟨fun n z => ⟨fun k h => (by cases h), k2, g2, m2, e2⟩, f2⟩
  | 3, hq => cases hq; exact ⟨fun n z => ⟨fun k h => (by cases h), k3, g3, m3, e3⟩, k3, m3, g3, e3, j3, f3⟩
  | 4, hq => cases hq; exact ⟨fun n z => ⟨fun k h => (by cases h), k4, g4, m4, e4⟩, f4⟩
  | i + 5, hq => simp at hq
