/-! the memory at first -/
def f3s (z : Nat → Int32) : Nat → Int32 := upd (upd (upd (upd (upd z 0 3) 1 3) 2 3) 3 3) 4 3
def u0 : gg_M := (fun t => if t = 7 then f7 (fun _ => 0) else if t = 11 then f3s (fun _ => 0) else if t = 52 then f3s (fun _ => 0) else if t = 6 then (fun j => if j = 1 then -1 else 0) else if t = 8 then (fun j => if j = 2 then -1 else 0) else if t = 39 then (fun j => if j = 1 then -1 else 0) else if t = 40 then (fun j => if j = 1 then -1 else 0) else if t = 41 then (fun j => if j = 1 then -1 else 0) else if t = 42 then (fun j => if j = 1 then -1 else 0) else fun _ => 0, fun _ _ => 0)
theorem u0_T0 : xT0 u0 = 0 := by decide +kernel
theorem u0_T1 : xT1 u0 = 0 := by decide +kernel
theorem u0_NS : xNS u0 = 0 := by decide +kernel
theorem u0_NM : xNM u0 = 0 := by decide +kernel
theorem u0_60 : ∀ s, s < 4 → u0.1 60 s = 0 := by decide +kernel
theorem u0_11 : ∀ j, j < 5 → u0.1 11 j = u0.1 52 j := by decide +kernel
theorem u0_39 : ∀ s, s < 4 → u0.1 (39 + s) 1 = -1 := by decide +kernel
theorem u0_7 : ∀ j, j < 7 → u0.1 7 j = gg_sv 2 j := by decide +kernel
theorem u0_A : okA (u0.1 52) := by
  unfold okA
  decide +kernel
theorem u0_W : WF u0 := by
  refine ⟨⟨?_, ?_⟩, ⟨?_, ?_⟩, u0_A, ⟨?_, ?_⟩, ⟨?_, ?_, ?_⟩, fun s hs => Or.inl (u0_60 s hs)⟩
  · rw [u0_T0]; decide +kernel
  · rw [u0_T0]; decide
  · rw [u0_T1]; decide +kernel
  · rw [u0_T1]; decide
  · rw [u0_NS]; decide +kernel
  · rw [u0_NS]; exact ⟨by decide, fun j hj => absurd hj (Nat.not_lt_zero j)⟩
  · rw [u0_NM]; decide +kernel
  · rw [u0_NM]; decide
  · rw [u0_NM]; exact fun j hj => absurd hj (Nat.not_lt_zero j)
theorem MF_0 (b : Nat → Int32) : MF 0 b = -1 := rfl
theorem MV_0 (b : Nat → Int32) : ek7 (gg_sv 2) (MV 0 b) := fun j hj => rfl
theorem HF_0 (b : Nat → Int32) : HF 0 b = -1 := rfl
theorem HN_0 (b : Nat → Int32) : HN 0 b = 0 := rfl
theorem u0_C : CI u0 u0 := by
  refine ⟨⟨⟨⟨rfl, ?_⟩, rfl, ?_⟩, ⟨?_, ?_⟩, ⟨?_, ?_, ?_⟩, u0_11, ⟨rfl, ?_⟩, ⟨rfl, ?_⟩, fun s hs => ⟨fun _ => u0_39 s hs, fun z => ?_⟩, rfl⟩, Or.inl rfl, Or.inl rfl, Or.inl rfl⟩
  · rw [u0_T0]; exact fun j hj => absurd hj (Nat.not_lt_zero j)
  · rw [u0_T1]; exact fun j hj => absurd hj (Nat.not_lt_zero j)
  · rw [u0_T0, MF_0]; decide +kernel
  · intro j hj
    unfold xmv
    rw [u0_T0, u0_7 j hj]
    exact MV_0 _ j hj
  · unfold xhf
    rw [u0_T1, HF_0]; decide +kernel
  · unfold xhn
    rw [u0_T1, HN_0]; decide +kernel
  · unfold xhn
    rw [u0_T1, HN_0]
    exact fun j hj => absurd hj (Nat.not_lt_zero j)
  · rw [u0_NS]; exact fun j hj => absurd hj (Nat.not_lt_zero j)
  · rw [u0_NM]; exact fun j hj => absurd hj (Nat.not_lt_zero j)
  · rw [u0_60 s hs] at z
    exact absurd z (by decide)
theorem u0_I : law_I u0 := ⟨u0, u0_W, u0_C, fun _ _ _ => rfl⟩
