/-! what both are, as one -/
def xT0 (A : gg_M) : Nat := (A.1 48 0).toNatClampNeg
def xT1 (A : gg_M) : Nat := (A.1 48 1).toNatClampNeg
def xNS (A : gg_M) : Nat := (A.1 1 8).toNatClampNeg
def xNM (A : gg_M) : Nat := (A.1 1 15).toNatClampNeg
def xZ (A : gg_M) (s : Nat) : Nat := (A.1 62 s).toNatClampNeg
def xb0 (A : gg_M) (j : Nat) : Int32 := A.1 47 (60 * 0 + j)
def xb1 (A : gg_M) (j : Nat) : Int32 := A.1 47 (60 * 1 + j)
def xmv (A : gg_M) : Nat → Int32 := MV (xT0 A) (xb0 A)
def xW (A : gg_M) : Nat → Nat := wB (xmv A) (A.1 52) (A.1 53) (A.1 54) (xNS A)
def xS (A : gg_M) (s : Nat) : Nat → Int32 := rn (xmv A) (A.1 53) s (xNS A)
def xG (A : gg_M) (s : Nat) : Bool := decide (0 < xW A s)
def xTot (A : gg_M) : Nat := fb_sm (xW A) 32
def xfl (A : gg_M) : Int32 := b2i (alr (xG A) (fun s => xS A s 7) 32)
def xba (A : gg_M) (n : Nat) : Nat := ams (fk (xmv A) (xW A) n (xG A) (xS A) (xTot A) (xfl A)) 10
def xbw (A : gg_M) (n : Nat) : Nat := mxs (fk (xmv A) (xW A) n (xG A) (xS A) (xTot A) (xfl A)) 10
def xhn (A : gg_M) : Nat := HN (xT1 A) (xb1 A)
def xha (A : gg_M) : Nat → Int32 := HA (xT1 A) (xb1 A)
def xhf (A : gg_M) : Int32 := HF (xT1 A) (xb1 A)
def xH (A : gg_M) (s : Nat) : Nat → Int32 := rn (xmv A) (xha A) s (xhn A)
def dnn (mv ac : Nat → Int32) (s : Nat) : Nat → Nat
  | 0 => 0
  | k + 1 => dnn mv ac s k + if dz_s mv (rn mv ac s k) (ac k) = 4 then 0 else 1
def xD (A : gg_M) (s : Nat) : Nat := dnn (xmv A) (xha A) s (xhn A)
def xR (A : gg_M) (s : Nat) : Bool := decide (xH A s 7 = 1)
/-- what a law says, and by how much it is off -/
def lsy (a b c age cold : Int32) : Int32 := a + b * age / 10 + c * cold
def iab (x : Int32) : Int32 := if 0 ≤ x then x else -x
def lof (A : gg_M) (a b c : Int32) : Nat → Int32
  | 0 => 0
  | k + 1 => lof A a b c k + iab (lsy a b c (A.1 57 k) (A.1 58 k) - A.1 59 k)
def xof (A : gg_M) (a b c : Int32) : Int32 := lof A a b c (xNM A)
def lof4 (A : gg_M) (k : Nat) : Int32 := xof A (nI (k / 40)) (nI (k / 4 % 10)) (nI (k % 4))
/-- the first of the laws that are off by least -/
def lbs (A : gg_M) : Nat → Nat
  | 0 => 0
  | k + 1 => if lof4 A (k + 1) < lof4 A (lbs A k) then k + 1 else lbs A k
def xL (A : gg_M) : Nat := lbs A 399
def WF (A : gg_M) : Prop :=
  (A.1 48 0 = nI (xT0 A) ∧ xT0 A ≤ 60) ∧ (A.1 48 1 = nI (xT1 A) ∧ xT1 A ≤ 40) ∧ okA (A.1 52) ∧ (A.1 1 8 = nI (xNS A) ∧ okS (A.1 53) (A.1 54) (xNS A)) ∧
  (A.1 1 15 = nI (xNM A) ∧ xNM A ≤ 16 ∧ ∀ j, j < xNM A → (0 ≤ A.1 57 j ∧ A.1 57 j ≤ 40) ∧ (0 ≤ A.1 58 j ∧ A.1 58 j ≤ 9) ∧ 0 ≤ A.1 59 j ∧ A.1 59 j ≤ 30) ∧
  ∀ s, s < 4 → A.1 60 s = 0 ∨ (A.1 60 s = 1 ∧ (0 ≤ A.1 61 s ∧ A.1 61 s ≤ 2) ∧ A.1 62 s = nI (xZ A s) ∧ xZ A s ≤ 48)
def CT (A u : gg_M) : Prop := (u.1 2 1 = A.1 48 0 ∧ ∀ j, j < xT0 A → u.1 4 j = xb0 A j) ∧ u.1 3 1 = A.1 48 1 ∧ ∀ j, j < xT1 A → u.1 5 j = xb1 A j
def CM (A u : gg_M) : Prop := u.1 6 1 = MF (xT0 A) (xb0 A) ∧ ek7 (u.1 7) (xmv A)
def CP (A u : gg_M) : Prop := u.1 8 2 = xhf A ∧ u.1 8 1 = nI (xhn A) ∧ ∀ j, j < xhn A → u.1 9 j = xha A j
def CA (A u : gg_M) : Prop := ∀ j, j < 5 → u.1 11 j = A.1 52 j
def CS (A u : gg_M) : Prop := u.1 12 2 = A.1 1 8 ∧ ∀ j, j < xNS A → u.1 13 j = A.1 53 j ∧ u.1 14 j = A.1 54 j
def CN (A u : gg_M) : Prop := u.1 33 5 = A.1 1 15 ∧ ∀ j, j < xNM A → u.1 34 j = A.1 57 j ∧ u.1 35 j = A.1 58 j ∧ u.1 36 j = A.1 59 j
def CH (A u : gg_M) : Prop := ∀ s, s < 4 → (A.1 60 s = 0 → u.1 (39 + s) 1 = -1) ∧ (A.1 60 s = 1 → u.1 (39 + s) 1 = A.1 61 s ∧ u.1 (39 + s) 2 = A.1 62 s ∧ ∀ i, i < xZ A s → u.1 (43 + s) i = A.1 63 (48 * s + i))
def CF (A u : gg_M) : Prop := u.1 0 11 = A.1 1 24
def CC (A u : gg_M) : Prop := CT A u ∧ CM A u ∧ CP A u ∧ CA A u ∧ CS A u ∧ CN A u ∧ CH A u ∧ CF A u
def KBf (A u : gg_M) : Prop := u.1 15 8 = 1 ∧ (∀ s, s < 32 → u.2 16 s = pkS (xS A s)) ∧ (∀ s, s < 32 → u.1 17 s = nI (xW A s)) ∧ (∀ s, s < 32 → bt (u.1 15 9) s = xG A s) ∧ u.1 15 10 = nI (xTot A) ∧
  (0 < xTot A → ∀ n, n < 3 → (u.1 26 (n + 1) = -1 ∧ xfl A = 0) ∨ (u.1 26 (n + 1) = nI (xba A n) ∧ u.1 27 (n + 1) = nI (xbw A n)))
def KB (A u : gg_M) : Prop := u.1 15 8 = 0 ∨ KBf A u
def KTf (A u : gg_M) : Prop := u.1 31 1 = 1 ∧ (∀ s, s < 32 → bt (u.1 31 2) s = xR A s) ∧ ∀ s, s < 32 → u.1 32 s = nI (xD A s)
def KT (A u : gg_M) : Prop := u.1 31 1 = 0 ∨ KTf A u
def KLf (A u : gg_M) : Prop := u.1 33 4 = 1 ∧ u.1 37 0 = nI (xL A / 40) ∧ u.1 37 1 = nI (xL A / 4 % 10) ∧ u.1 37 2 = nI (xL A % 4) ∧ u.1 37 3 = lof4 A (xL A)
def KL (A u : gg_M) : Prop := u.1 33 4 = 0 ∨ KLf A u
def CI (A u : gg_M) : Prop := CC A u ∧ KB A u ∧ KT A u ∧ KL A u
def rc (t j : Nat) : Bool := t == 47 || t == 48 || t == 52 || t == 53 || t == 54 || t == 57 || t == 58 || t == 59 || t == 60 || t == 61 || t == 62 || t == 63 || (t == 1 && (j == 8 || j == 15 || j == 24))
def RI (A u : gg_M) : Prop := ∀ t j, rc t j = true → u.1 t j = A.1 t j
def PR (t _j : Nat) : Bool := t == 1 || decide (47 ≤ t)
def PC (t _j : Nat) : Bool := !(t == 1 || decide (47 ≤ t))
theorem RI.fr {A u v : gg_M} {P : Nat → Nat → Bool} (h : RI A u) (hF : Fr P u v) (hP : ∀ t j, rc t j = true → P t j = false) : RI A v := fun t j ht => (hF t j (hP t j ht)).1.trans (h t j ht)
def kc (t j : Nat) : Bool := t == 0 || (decide (2 ≤ t) && decide (t ≤ 9)) || t == 11 || t == 12 || t == 13 || t == 14 || (t == 33 && j == 5) || (decide (34 ≤ t) && decide (t ≤ 36)) || (decide (39 ≤ t) && decide (t ≤ 46))
theorem CC.fr {A u v : gg_M} {P : Nat → Nat → Bool} (h : CC A u) (hF : Fr P u v) (hP : ∀ t j, kc t j = true → P t j = false) : CC A v := by
  obtain ⟨⟨⟨t1, t2⟩, t3, t4⟩, ⟨m1, m2⟩, ⟨p1, p2, p3⟩, ha, ⟨s1, s2⟩, ⟨n1, n2⟩, hh, hf⟩ := h
  have e : ∀ t j, kc t j = true → v.1 t j = u.1 t j := fun t j q => (hF t j (hP t j q)).1
  refine ⟨⟨⟨?_, fun j hj => ?_⟩, ?_, fun j hj => ?_⟩, ⟨?_, fun j hj => ?_⟩, ⟨?_, ?_, fun j hj => ?_⟩, fun j hj => ?_, ⟨?_, fun j hj => ⟨?_, ?_⟩⟩, ⟨?_, fun j hj => ⟨?_, ?_, ?_⟩⟩, fun s hs => ⟨fun q => ?_, fun q => ⟨?_, ?_, fun i hi => ?_⟩⟩, ?_⟩
  · rw [e 2 1 rfl]; exact t1
  · rw [e 4 j rfl]; exact t2 j hj
  · rw [e 3 1 rfl]; exact t3
  · rw [e 5 j rfl]; exact t4 j hj
  · rw [e 6 1 rfl]; exact m1
  · rw [e 7 j rfl]; exact m2 j hj
  · rw [e 8 2 rfl]; exact p1
  · rw [e 8 1 rfl]; exact p2
  · rw [e 9 j rfl]; exact p3 j hj
  · rw [e 11 j rfl]; exact ha j hj
  · rw [e 12 2 rfl]; exact s1
  · rw [e 13 j rfl]; exact (s2 j hj).1
  · rw [e 14 j rfl]; exact (s2 j hj).2
  · rw [e 33 5 rfl]; exact n1
  · rw [e 34 j rfl]; exact (n2 j hj).1
  · rw [e 35 j rfl]; exact (n2 j hj).2.1
  · rw [e 36 j rfl]; exact (n2 j hj).2.2
  · rw [e (39 + s) 1 (by simp [kc]; omega)]; exact (hh s hs).1 q
  · rw [e (39 + s) 1 (by simp [kc]; omega)]; exact ((hh s hs).2 q).1
  · rw [e (39 + s) 2 (by simp [kc]; omega)]; exact ((hh s hs).2 q).2.1
  · rw [e (43 + s) i (by simp [kc]; omega)]; exact ((hh s hs).2 q).2.2 i hi
  · unfold CF
    rw [e 0 11 rfl]; exact hf
theorem KBf.fr {A u v : gg_M} {P : Nat → Nat → Bool} (h : KBf A u) (hF : Fr P u v) (h15 : ∀ j, 8 ≤ j → P 15 j = false) (h16 : ∀ j, j < 32 → P 16 j = false) (h17 : ∀ j, P 17 j = false) (h26 : ∀ j, P 26 j = false) (h27 : ∀ j, P 27 j = false) : KBf A v := by
  obtain ⟨b1, b2, b3, b4, b5, b6⟩ := h
  refine ⟨?_, fun s hs => ?_, fun s hs => ?_, fun s hs => ?_, ?_, fun ht n hn => ?_⟩
  · rw [(hF 15 8 (h15 8 (by decide))).1]; exact b1
  · rw [(hF 16 s (h16 s hs)).2]; exact b2 s hs
  · rw [(hF 17 s (h17 s)).1]; exact b3 s hs
  · rw [(hF 15 9 (h15 9 (by decide))).1]; exact b4 s hs
  · rw [(hF 15 10 (h15 10 (by decide))).1]; exact b5
  · rw [(hF 26 (n + 1) (h26 _)).1, (hF 27 (n + 1) (h27 _)).1]; exact b6 ht n hn
theorem KB.fr {A u v : gg_M} {P : Nat → Nat → Bool} (h : KB A u) (hF : Fr P u v) (h15 : ∀ j, 8 ≤ j → P 15 j = false) (h16 : ∀ j, j < 32 → P 16 j = false) (h17 : ∀ j, P 17 j = false) (h26 : ∀ j, P 26 j = false) (h27 : ∀ j, P 27 j = false) : KB A v := by
  rcases h with h | h
  · left
    rw [(hF 15 8 (h15 8 (by decide))).1]; exact h
  · exact Or.inr (h.fr hF h15 h16 h17 h26 h27)
theorem KTf.fr {A u v : gg_M} {P : Nat → Nat → Bool} (h : KTf A u) (hF : Fr P u v) (h31 : ∀ j, P 31 j = false) (h32 : ∀ j, P 32 j = false) : KTf A v := by
  obtain ⟨b1, b2, b3⟩ := h
  refine ⟨?_, fun s hs => ?_, fun s hs => ?_⟩
  · rw [(hF 31 1 (h31 1)).1]; exact b1
  · rw [(hF 31 2 (h31 2)).1]; exact b2 s hs
  · rw [(hF 32 s (h32 s)).1]; exact b3 s hs
theorem KT.fr {A u v : gg_M} {P : Nat → Nat → Bool} (h : KT A u) (hF : Fr P u v) (h31 : ∀ j, P 31 j = false) (h32 : ∀ j, P 32 j = false) : KT A v := by
  rcases h with h | h
  · left
    rw [(hF 31 1 (h31 1)).1]; exact h
  · exact Or.inr (h.fr hF h31 h32)
theorem KLf.fr {A u v : gg_M} {P : Nat → Nat → Bool} (h : KLf A u) (hF : Fr P u v) (h33 : P 33 4 = false) (h37 : ∀ j, P 37 j = false) : KLf A v := by
  obtain ⟨b1, b2, b3, b4, b5⟩ := h
  refine ⟨?_, ?_, ?_, ?_, ?_⟩
  · rw [(hF 33 4 h33).1]; exact b1
  · rw [(hF 37 0 (h37 _)).1]; exact b2
  · rw [(hF 37 1 (h37 _)).1]; exact b3
  · rw [(hF 37 2 (h37 _)).1]; exact b4
  · rw [(hF 37 3 (h37 _)).1]; exact b5
theorem KL.fr {A u v : gg_M} {P : Nat → Nat → Bool} (h : KL A u) (hF : Fr P u v) (h33 : P 33 4 = false) (h37 : ∀ j, P 37 j = false) : KL A v := by
  rcases h with h | h
  · left
    rw [(hF 33 4 h33).1]; exact h
  · exact Or.inr (h.fr hF h33 h37)
theorem CI.rf {A u v : gg_M} (h : CI A u) (hF : Fr PR u v) : CI A v :=
  ⟨h.1.fr hF (fun t j q => by simp [kc] at q; simp [PR]; omega), h.2.1.fr hF (fun _ _ => rfl) (fun _ _ => rfl) (fun _ => rfl) (fun _ => rfl) (fun _ => rfl), h.2.2.1.fr hF (fun _ => rfl) (fun _ => rfl), h.2.2.2.fr hF rfl (fun _ => rfl)⟩
theorem RI.rf {A u v : gg_M} (h : RI A u) (hF : Fr PC u v) : RI A v := h.fr hF (fun t j q => by simp [rc] at q; simp [PC]; omega)
