/-! what a change leaves as it was -/
theorem xNS_e {A B : gg_M} (e : B.1 1 8 = A.1 1 8) : xNS B = xNS A := by unfold xNS; rw [e]
theorem xNM_e {A B : gg_M} (e : B.1 1 15 = A.1 1 15) : xNM B = xNM A := by unfold xNM; rw [e]
theorem KB.tr {A B u v : gg_M} (h : KB A u) (em : xmv B = xmv A) (e52 : B.1 52 = A.1 52) (e53 : B.1 53 = A.1 53) (e54 : B.1 54 = A.1 54) (e8 : B.1 1 8 = A.1 1 8) (h15 : v.1 15 = u.1 15) (h16 : v.2 16 = u.2 16) (h17 : v.1 17 = u.1 17) (h26 : v.1 26 = u.1 26) (h27 : v.1 27 = u.1 27) : KB B v := by
  have eN := xNS_e e8
  have eW : xW B = xW A := by unfold xW; rw [em, e52, e53, e54, eN]
  have eS : xS B = xS A := by funext s; unfold xS; rw [em, e53, eN]
  have eG : xG B = xG A := by funext s; unfold xG; rw [eW]
  have eT : xTot B = xTot A := by unfold xTot; rw [eW]
  have eF : xfl B = xfl A := by unfold xfl; rw [eG, eS]
  have eA : xba B = xba A := by funext n; unfold xba; rw [em, eW, eG, eS, eT, eF]
  have eB : xbw B = xbw A := by funext n; unfold xbw; rw [em, eW, eG, eS, eT, eF]
  unfold KB KBf at h ⊢
  rw [eW, eS, eG, eT, eF, eA, eB, h15, h16, h17, h26, h27]
  exact h
theorem KT.tr {A B u v : gg_M} (h : KT A u) (em : xmv B = xmv A) (eh : xha B = xha A) (en : xhn B = xhn A) (h31 : v.1 31 = u.1 31) (h32 : v.1 32 = u.1 32) : KT B v := by
  have eD : xD B = xD A := by funext s; unfold xD; rw [em, eh, en]
  have eR : xR B = xR A := by funext s; unfold xR xH; rw [em, eh, en]
  unfold KT KTf at h ⊢
  rw [eD, eR, h31, h32]
  exact h
theorem lof_e {A B : gg_M} (a b c : Int32) : ∀ k, (∀ j, j < k → B.1 57 j = A.1 57 j ∧ B.1 58 j = A.1 58 j ∧ B.1 59 j = A.1 59 j) → lof B a b c k = lof A a b c k
  | 0, _ => rfl
  | k + 1, h => by
    show lof B a b c k + _ = lof A a b c k + _
    rw [lof_e a b c k (fun j hj => h j (by omega)), (h k (by omega)).1, (h k (by omega)).2.1, (h k (by omega)).2.2]
theorem lbs_e {A B : gg_M} (h : lof4 B = lof4 A) : ∀ k, lbs B k = lbs A k
  | 0 => rfl
  | k + 1 => by
    show (if lof4 B (k + 1) < lof4 B (lbs B k) then k + 1 else lbs B k) = if lof4 A (k + 1) < lof4 A (lbs A k) then k + 1 else lbs A k
    rw [lbs_e h k, h]
theorem KL.tr {A B u v : gg_M} (h : KL A u) (e57 : B.1 57 = A.1 57) (e58 : B.1 58 = A.1 58) (e59 : B.1 59 = A.1 59) (e15 : B.1 1 15 = A.1 1 15) (h33 : v.1 33 4 = u.1 33 4) (h37 : v.1 37 = u.1 37) : KL B v := by
  have eo : lof4 B = lof4 A := by
    funext k
    unfold lof4 xof
    rw [xNM_e e15]
    exact lof_e _ _ _ _ (fun j _ => by rw [e57, e58, e59]; exact ⟨rfl, rfl, rfl⟩)
  have eL : xL B = xL A := lbs_e eo 399
  unfold KL KLf at h ⊢
  rw [eL, eo, h33, h37]
  exact h
/-- the reference's numbers of its own -/
def PMo (t j : Nat) : Bool := t == 49 || (t == 1 && j == 5)
def PHa (t j : Nat) : Bool := t == 50 || (t == 1 && j == 4)
theorem PMo_R (t j : Nat) (h : PR t j = false) : PMo t j = false := by
  simp [PR] at h
  simp [PMo]
  omega
theorem PHa_R (t j : Nat) (h : PR t j = false) : PHa t j = false := by
  simp [PR] at h
  simp [PHa]
  omega
theorem PMo_rc (t j : Nat) (q : rc t j = true) : PMo t j = false := by
  simp [rc] at q
  simp [PMo]
  omega
theorem PHa_rc (t j : Nat) (q : rc t j = true) : PHa t j = false := by
  simp [rc] at q
  simp [PHa]
  omega
theorem rmotor_s {A u : gg_M} {Q : Int32 → gg_M → Prop} (hA : WF A) (h : RI A u) (hQ : ∀ v, Fr PMo u v → RI A v → ek7 (v.1 49) (xmv A) → Q (MF (xT0 A) (xb0 A)) v) : w_X11_motorNow u Q := by
  have e47 : (fun j => u.1 47 (60 * 0 + j)) = xb0 A := funext fun j => h.e 47 _
  refine motorNow_s (n := xT0 A) (b := xb0 A) e47.symm (by rw [h.e 48 0]; exact hA.1.1) hA.1.2 fun f p hf => ?_
  have hF : Fr PMo u (mmu u f p) := by
    unfold mmu
    exact (Fr.rf.wA (fun _ => rfl)).wI rfl
  refine hQ _ hF (h.fr hF PMo_rc) ?_
  rw [mmu_v]
  exact hf
theorem rhabit_s {A u : gg_M} {Q : Int32 → gg_M → Prop} (hA : WF A) (h : RI A u) (hQ : ∀ v, Fr PHa u v → RI A v → (∀ j, j < xhn A → v.1 50 j = xha A j) → v.1 1 4 = nI (xhn A) → Q (xhf A) v) : w_X11_habitNow u Q := by
  have e47 : (fun j => u.1 47 (60 * 1 + j)) = xb1 A := funext fun j => h.e 47 _
  refine habitNow_s (n := xT1 A) (b := xb1 A) e47.symm (by rw [h.e 48 1]; exact hA.2.1.1) hA.2.1.2 fun f hf => ?_
  have hF : Fr PHa u (gcu u 50 1 4 f (HN (xT1 A) (xb1 A))) := by
    unfold gcu
    exact (Fr.rf.wA (fun _ => rfl)).wI rfl
  refine hQ _ hF (h.fr hF PHa_rc) (fun j hj => ?_) (gcu_z _ _ _ _ _ _)
  rw [gcu_f _ _ _ (by decide)]
  exact hf j hj
/-! faults and the motor's numbers -/
def q_fault (A : gg_M) (a : Int32) : Int32 := if a = 0 then MF (xT0 A) (xb0 A) else if a = 1 then xhf A else -2
theorem c_fault {A u : gg_M} {a : Int32} {Q : Int32 → gg_M → Prop} (h : CI A u) (hQ : ∀ v, Fr PC u v → CI A v → Q (q_fault A a) v) : w_X10_fault a u Q := by
  unfold w_X10_fault w_X10_fault_c32
  have hq := hQ u Fr.rf h
  unfold q_fault at hq
  refine isB_s (fun c => y1 ⟨fun c2 => ?_, fun c2 => ?_⟩) (fun c => y0 ?_)
  · rw [if_neg c2, if_pos (by grind)] at hq
    rw [h.1.2.2.1.1]
    exact hq
  · rw [if_pos c2] at hq
    rw [h.1.2.1.1]
    exact hq
  · rw [if_neg (by grind), if_neg (by grind)] at hq
    exact hq
theorem r_fault {A u : gg_M} {a : Int32} {Q : Int32 → gg_M → Prop} (hA : WF A) (h : RI A u) (hQ : ∀ v, Fr PR u v → RI A v → Q (q_fault A a) v) : w_X11_fault a u Q := by
  unfold w_X11_fault w_X11_fault_c25
  unfold q_fault at hQ
  refine ⟨fun c => ⟨fun c2 => ?_, fun c2 => rhabit_s hA h fun v hF hI _ _ => ?_⟩, fun c => rmotor_s hA h fun v hF hI _ => ?_⟩
  · have hq := hQ u Fr.rf h
    rwa [if_neg c, if_neg c2] at hq
  · have hq := hQ v (hF.mono PHa_R) hI
    rwa [if_neg c, if_pos c2] at hq
  · have hq := hQ v (hF.mono PMo_R) hI
    rwa [if_pos c] at hq
def q_motor (A : gg_M) (a : Int32) : Int32 := if 0 ≤ a ∧ a < 7 then xmv A a.toNatClampNeg else -2
theorem c_motor {A u : gg_M} {a : Int32} {Q : Int32 → gg_M → Prop} (h : CI A u) (hQ : ∀ v, Fr PC u v → CI A v → Q (q_motor A a) v) : w_X10_motor a u Q := by
  unfold w_X10_motor w_X10_motor_c23
  have hq := hQ u Fr.rf h
  unfold q_motor at hq
  refine isB_s (fun c => t1 ?_) (fun c => t0 ?_)
  · rw [if_pos c] at hq
    obtain ⟨k, hk, rfl⟩ := rng 7 rfl (by decide) c
    rw [nI_clamp (by omega)] at hq ⊢
    rw [h.1.2.1.2 k hk]
    exact ⟨vp_in_nI hk (by decide), hq⟩
  · rwa [if_neg c] at hq
theorem r_motorOf {A u : gg_M} {k : Nat} {Q : Int32 → gg_M → Prop} (hA : WF A) (h : RI A u) (hk : k < 7) (hQ : ∀ v, Fr PR u v → RI A v → Q (xmv A k) v) : w_X11_motorOf (nI k) u Q := by
  unfold w_X11_motorOf
  refine rmotor_s hA h fun v hF hI h49 => ⟨vp_in_nI hk (by decide), ?_⟩
  rw [nI_clamp (by omega), h49 k hk]
  exact hQ v (hF.mono PMo_R) hI
theorem r_motor {A u : gg_M} {a : Int32} {Q : Int32 → gg_M → Prop} (hA : WF A) (h : RI A u) (hQ : ∀ v, Fr PR u v → RI A v → Q (q_motor A a) v) : w_X11_motor a u Q := by
  unfold w_X11_motor w_X11_motor_c20
  unfold q_motor at hQ
  refine in_s 7 (le6 a) (fun c => t1 ?_) (fun c => t0 ?_)
  · rw [if_pos c] at hQ
    obtain ⟨k, hk, rfl⟩ := rng 7 rfl (by decide) c
    rw [nI_clamp (by omega)] at hQ
    exact r_motorOf hA h hk hQ
  · rw [if_neg c] at hQ
    exact hQ u Fr.rf h
