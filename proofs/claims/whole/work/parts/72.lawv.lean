/-! the law: its condition -/
def w_L_law_c1247 (N : Nat) (xs : Nat → Int32) (a3 : Int32) (u : gg_M) (k18 : Int32 × gg_M → Prop) (Q : Int32 → gg_M → Prop) : Prop :=
  k18 ((a3 + 6), u)
set_option maxRecDepth 10000 in
theorem m_L_law_c1247 {N : Nat} {xs : Nat → Int32} {a3 : Int32} {u : gg_M} {k18 : Int32 × gg_M → Prop} {G : gg_T} {Q : Int32 → gg_M → Prop} (hG : gg_Cl (some (N, xs)) code 4 RL ret 12 (gg_eI Q) G)  (h : w_L_law_c1247 N xs a3 u k18 Q)  (hk18 : ∀ s : Int32 × gg_M, k18 s → G 18 [some (.ref 110), some (.ref 0), some (.ref 1), some (.int s.1)] [] s.2) : G 1247 [some (.ref 110), some (.ref 0), some (.ref 1), some (.int a3)] [] u := by
  unfold w_L_law_c1247 at h
  refine gg_iinc (v := (a3 + 6)) (L1 := [some (.ref 110), some (.ref 0), some (.ref 1), some (.int (a3 + 6))]) hG dL_law_1247 rfl rfl (by decide) rfl ?_
  refine gg_goto (tgt := 18) hG dL_law_1250 (by decide) ?_
  exact hk18 _ h
def b_L_law_c18 (N : Nat) (xs : Nat → Int32)  (a3 : Int32) (u : gg_M)  (k18 : Int32 × gg_M → Prop) (Q : Int32 → gg_M → Prop) : Prop :=
  (((Int32.ofNat N) - 6) < a3 →
   Q 1 u) ∧
  (¬ ((Int32.ofNat N) - 6) < a3 →
   vp_in a3 N ∧
   ∀ v3 : Int32, v3 = ((xs a3.toNatClampNeg) &&& 63) →
   (v3 = 0 →
    vp_in (a3 + 1) N ∧
    vp_in (a3 + 2) N ∧
    w_X10_type (xs ((a3 + 1).toNatClampNeg)) (xs ((a3 + 2).toNatClampNeg)) u (fun v8 u7 =>
    vp_in (a3 + 1) N ∧
    vp_in (a3 + 2) N ∧
    w_X11_type (xs ((a3 + 1).toNatClampNeg)) (xs ((a3 + 2).toNatClampNeg)) u7 (fun v12 u11 =>
    (v8 = v12 →
     w_L_law_c1247 N xs a3 u11 k18 Q) ∧
    (¬ v8 = v12 →
     Q 0 u11)))) ∧
   (v3 = 1 →
    vp_in (a3 + 1) N ∧
    w_X10_wipe (xs ((a3 + 1).toNatClampNeg)) u (fun v17 u16 =>
    vp_in (a3 + 1) N ∧
    w_X11_wipe (xs ((a3 + 1).toNatClampNeg)) u16 (fun v20 u19 =>
    (v17 = v20 →
     w_L_law_c1247 N xs a3 u19 k18 Q) ∧
    (¬ v17 = v20 →
     Q 0 u19)))) ∧
   (v3 = 2 →
    vp_in (a3 + 1) N ∧
    w_X10_fault (xs ((a3 + 1).toNatClampNeg)) u (fun v25 u24 =>
    vp_in (a3 + 1) N ∧
    w_X11_fault (xs ((a3 + 1).toNatClampNeg)) u24 (fun v28 u27 =>
    (v25 = v28 →
     w_L_law_c1247 N xs a3 u27 k18 Q) ∧
    (¬ v25 = v28 →
     Q 0 u27)))) ∧
   (v3 = 3 →
    vp_in (a3 + 1) N ∧
    w_X10_motor (xs ((a3 + 1).toNatClampNeg)) u (fun v33 u32 =>
    vp_in (a3 + 1) N ∧
    w_X11_motor (xs ((a3 + 1).toNatClampNeg)) u32 (fun v36 u35 =>
    (v33 = v36 →
     w_L_law_c1247 N xs a3 u35 k18 Q) ∧
    (¬ v33 = v36 →
     Q 0 u35)))) ∧
   (v3 = 4 →
    vp_in (a3 + 1) N ∧
    vp_in (a3 + 2) N ∧
    w_X10_ahead (xs ((a3 + 1).toNatClampNeg)) (xs ((a3 + 2).toNatClampNeg)) u (fun v42 u41 =>
    vp_in (a3 + 1) N ∧
    vp_in (a3 + 2) N ∧
    w_X11_ahead (xs ((a3 + 1).toNatClampNeg)) (xs ((a3 + 2).toNatClampNeg)) u41 (fun v46 u45 =>
    (v42 = v46 →
     w_L_law_c1247 N xs a3 u45 k18 Q) ∧
    (¬ v42 = v46 →
     Q 0 u45)))) ∧
   (v3 = 5 →
    vp_in (a3 + 1) N ∧
    vp_in (a3 + 2) N ∧
    w_X10_see (xs ((a3 + 1).toNatClampNeg)) (xs ((a3 + 2).toNatClampNeg)) u (fun v52 u51 =>
    vp_in (a3 + 1) N ∧
    vp_in (a3 + 2) N ∧
    w_X11_see (xs ((a3 + 1).toNatClampNeg)) (xs ((a3 + 2).toNatClampNeg)) u51 (fun v56 u55 =>
    (v52 = v56 →
     w_L_law_c1247 N xs a3 u55 k18 Q) ∧
    (¬ v52 = v56 →
     Q 0 u55)))) ∧
   (v3 = 6 →
    vp_in (a3 + 1) N ∧
    w_X10_read (xs ((a3 + 1).toNatClampNeg)) u (fun v61 u60 =>
    vp_in (a3 + 1) N ∧
    w_X11_read (xs ((a3 + 1).toNatClampNeg)) u60 (fun v64 u63 =>
    (v61 = v64 →
     w_L_law_c1247 N xs a3 u63 k18 Q) ∧
    (¬ v61 = v64 →
     Q 0 u63)))) ∧
   (v3 = 7 →
    w_X10_back u (fun v68 u67 =>
    w_X11_back u67 (fun v70 u69 =>
    (v68 = v70 →
     w_L_law_c1247 N xs a3 u69 k18 Q) ∧
    (¬ v68 = v70 →
     Q 0 u69)))) ∧
   (v3 = 8 →
    w_X10_left u (fun v74 u73 =>
    w_X11_left u73 (fun v76 u75 =>
    (v74 = v76 →
     w_L_law_c1247 N xs a3 u75 k18 Q) ∧
    (¬ v74 = v76 →
     Q 0 u75)))) ∧
   (v3 = 9 →
    vp_in (a3 + 1) N ∧
    vp_in (a3 + 2) N ∧
    w_X10_odds (xs ((a3 + 1).toNatClampNeg)) (xs ((a3 + 2).toNatClampNeg)) u (fun v82 u81 =>
    vp_in (a3 + 1) N ∧
    vp_in (a3 + 2) N ∧
    w_X11_odds (xs ((a3 + 1).toNatClampNeg)) (xs ((a3 + 2).toNatClampNeg)) u81 (fun v86 u85 =>
    ((lg_cmp v82 v86) = 0 →
     w_L_law_c1247 N xs a3 u85 k18 Q) ∧
    (¬ (lg_cmp v82 v86) = 0 →
     Q 0 u85)))) ∧
   (v3 = 10 →
    vp_in (a3 + 1) N ∧
    vp_in (a3 + 2) N ∧
    w_X10_trouble (xs ((a3 + 1).toNatClampNeg)) (xs ((a3 + 2).toNatClampNeg)) u (fun v92 u91 =>
    vp_in (a3 + 1) N ∧
    vp_in (a3 + 2) N ∧
    w_X11_trouble (xs ((a3 + 1).toNatClampNeg)) (xs ((a3 + 2).toNatClampNeg)) u91 (fun v96 u95 =>
    ((lg_cmp v92 v96) = 0 →
     w_L_law_c1247 N xs a3 u95 k18 Q) ∧
    (¬ (lg_cmp v92 v96) = 0 →
     Q 0 u95)))) ∧
   (v3 = 11 →
    vp_in (a3 + 1) N ∧
    vp_in (a3 + 2) N ∧
    w_X10_state (xs ((a3 + 1).toNatClampNeg)) (xs ((a3 + 2).toNatClampNeg)) u (fun v102 u101 =>
    vp_in (a3 + 1) N ∧
    vp_in (a3 + 2) N ∧
    w_X11_state (xs ((a3 + 1).toNatClampNeg)) (xs ((a3 + 2).toNatClampNeg)) u101 (fun v106 u105 =>
    (v102 = v106 →
     w_L_law_c1247 N xs a3 u105 k18 Q) ∧
    (¬ v102 = v106 →
     Q 0 u105)))) ∧
   (v3 = 12 →
    vp_in (a3 + 1) N ∧
    vp_in (a3 + 2) N ∧
    w_X10_sign (xs ((a3 + 1).toNatClampNeg)) (xs ((a3 + 2).toNatClampNeg)) u (fun v112 u111 =>
    vp_in (a3 + 1) N ∧
    vp_in (a3 + 2) N ∧
    w_X11_sign (xs ((a3 + 1).toNatClampNeg)) (xs ((a3 + 2).toNatClampNeg)) u111 (fun v116 u115 =>
    (v112 = v116 →
     w_L_law_c1247 N xs a3 u115 k18 Q) ∧
    (¬ v112 = v116 →
     Q 0 u115)))) ∧
   (v3 = 13 →
    vp_in (a3 + 1) N ∧
    vp_in (a3 + 2) N ∧
    vp_in (a3 + 3) N ∧
    w_X10_chance (xs ((a3 + 1).toNatClampNeg)) (xs ((a3 + 2).toNatClampNeg)) (xs ((a3 + 3).toNatClampNeg)) u (fun v123 u122 =>
    vp_in (a3 + 1) N ∧
    vp_in (a3 + 2) N ∧
    vp_in (a3 + 3) N ∧
    w_X11_chance (xs ((a3 + 1).toNatClampNeg)) (xs ((a3 + 2).toNatClampNeg)) (xs ((a3 + 3).toNatClampNeg)) u122 (fun v128 u127 =>
    ((lg_cmp v123 v128) = 0 →
     w_L_law_c1247 N xs a3 u127 k18 Q) ∧
    (¬ (lg_cmp v123 v128) = 0 →
     Q 0 u127)))) ∧
   (v3 = 14 →
    vp_in (a3 + 1) N ∧
    w_X10_parts (xs ((a3 + 1).toNatClampNeg)) u (fun v133 u132 =>
    vp_in (a3 + 1) N ∧
    w_X11_parts (xs ((a3 + 1).toNatClampNeg)) u132 (fun v136 u135 =>
    (v133 = v136 →
     w_L_law_c1247 N xs a3 u135 k18 Q) ∧
    (¬ v133 = v136 →
     Q 0 u135)))) ∧
   (v3 = 15 →
    vp_in (a3 + 1) N ∧
    vp_in (a3 + 2) N ∧
    w_X10_sure (xs ((a3 + 1).toNatClampNeg)) (xs ((a3 + 2).toNatClampNeg)) u (fun v142 u141 =>
    vp_in (a3 + 1) N ∧
    vp_in (a3 + 2) N ∧
    w_X11_sure (xs ((a3 + 1).toNatClampNeg)) (xs ((a3 + 2).toNatClampNeg)) u141 (fun v146 u145 =>
    ((lg_cmp v142 v146) = 0 →
     w_L_law_c1247 N xs a3 u145 k18 Q) ∧
    (¬ (lg_cmp v142 v146) = 0 →
     Q 0 u145)))) ∧
   (v3 = 16 →
    vp_in (a3 + 1) N ∧
    vp_in (a3 + 2) N ∧
    w_X10_best (xs ((a3 + 1).toNatClampNeg)) (xs ((a3 + 2).toNatClampNeg)) u (fun v152 u151 =>
    vp_in (a3 + 1) N ∧
    vp_in (a3 + 2) N ∧
    w_X11_best (xs ((a3 + 1).toNatClampNeg)) (xs ((a3 + 2).toNatClampNeg)) u151 (fun v156 u155 =>
    ((lg_cmp v152 v156) = 0 →
     w_L_law_c1247 N xs a3 u155 k18 Q) ∧
    (¬ (lg_cmp v152 v156) = 0 →
     Q 0 u155)))) ∧
   (v3 = 17 →
    vp_in (a3 + 1) N ∧
    vp_in (a3 + 2) N ∧
    w_X10_habit (xs ((a3 + 1).toNatClampNeg)) (xs ((a3 + 2).toNatClampNeg)) u (fun v162 u161 =>
    vp_in (a3 + 1) N ∧
    vp_in (a3 + 2) N ∧
    w_X11_habit (xs ((a3 + 1).toNatClampNeg)) (xs ((a3 + 2).toNatClampNeg)) u161 (fun v166 u165 =>
    ((lg_cmp v162 v166) = 0 →
     w_L_law_c1247 N xs a3 u165 k18 Q) ∧
    (¬ (lg_cmp v162 v166) = 0 →
     Q 0 u165)))) ∧
   (v3 = 18 →
    vp_in (a3 + 1) N ∧
    w_X10_has (xs ((a3 + 1).toNatClampNeg)) u (fun v171 u170 =>
    vp_in (a3 + 1) N ∧
    w_X11_has (xs ((a3 + 1).toNatClampNeg)) u170 (fun v174 u173 =>
    (v171 = v174 →
     w_L_law_c1247 N xs a3 u173 k18 Q) ∧
    (¬ v171 = v174 →
     Q 0 u173)))) ∧
   (v3 = 19 →
    vp_in (a3 + 1) N ∧
    w_X10_work (xs ((a3 + 1).toNatClampNeg)) u (fun v179 u178 =>
    vp_in (a3 + 1) N ∧
    w_X11_work (xs ((a3 + 1).toNatClampNeg)) u178 (fun v182 u181 =>
    ((lg_cmp v179 v182) = 0 →
     w_L_law_c1247 N xs a3 u181 k18 Q) ∧
    (¬ (lg_cmp v179 v182) = 0 →
     Q 0 u181)))) ∧
   (v3 = 20 →
    vp_in (a3 + 1) N ∧
    vp_in (a3 + 2) N ∧
    w_X10_drowned (xs ((a3 + 1).toNatClampNeg)) (xs ((a3 + 2).toNatClampNeg)) u (fun v188 u187 =>
    vp_in (a3 + 1) N ∧
    vp_in (a3 + 2) N ∧
    w_X11_drowned (xs ((a3 + 1).toNatClampNeg)) (xs ((a3 + 2).toNatClampNeg)) u187 (fun v192 u191 =>
    (v188 = v192 →
     w_L_law_c1247 N xs a3 u191 k18 Q) ∧
    (¬ v188 = v192 →
     Q 0 u191)))) ∧
   (v3 = 21 →
    vp_in (a3 + 1) N ∧
    vp_in (a3 + 2) N ∧
    vp_in (a3 + 3) N ∧
    w_X10_morning (xs ((a3 + 1).toNatClampNeg)) (xs ((a3 + 2).toNatClampNeg)) (xs ((a3 + 3).toNatClampNeg)) u (fun v199 u198 =>
    vp_in (a3 + 1) N ∧
    vp_in (a3 + 2) N ∧
    vp_in (a3 + 3) N ∧
    w_X11_morning (xs ((a3 + 1).toNatClampNeg)) (xs ((a3 + 2).toNatClampNeg)) (xs ((a3 + 3).toNatClampNeg)) u198 (fun v204 u203 =>
    (v199 = v204 →
     w_L_law_c1247 N xs a3 u203 k18 Q) ∧
    (¬ v199 = v204 →
     Q 0 u203)))) ∧
   (v3 = 22 →
    vp_in (a3 + 1) N ∧
    vp_in (a3 + 2) N ∧
    vp_in (a3 + 3) N ∧
    vp_in (a3 + 4) N ∧
    vp_in (a3 + 5) N ∧
    w_X10_says (xs ((a3 + 1).toNatClampNeg)) (xs ((a3 + 2).toNatClampNeg)) (xs ((a3 + 3).toNatClampNeg)) (xs ((a3 + 4).toNatClampNeg)) (xs ((a3 + 5).toNatClampNeg)) u (fun v213 u212 =>
    vp_in (a3 + 1) N ∧
    vp_in (a3 + 2) N ∧
    vp_in (a3 + 3) N ∧
    vp_in (a3 + 4) N ∧
    vp_in (a3 + 5) N ∧
    w_X11_says (xs ((a3 + 1).toNatClampNeg)) (xs ((a3 + 2).toNatClampNeg)) (xs ((a3 + 3).toNatClampNeg)) (xs ((a3 + 4).toNatClampNeg)) (xs ((a3 + 5).toNatClampNeg)) u212 (fun v220 u219 =>
    (v213 = v220 →
     w_L_law_c1247 N xs a3 u219 k18 Q) ∧
    (¬ v213 = v220 →
     Q 0 u219)))) ∧
   (v3 = 23 →
    vp_in (a3 + 1) N ∧
    vp_in (a3 + 2) N ∧
    vp_in (a3 + 3) N ∧
    w_X10_misses (xs ((a3 + 1).toNatClampNeg)) (xs ((a3 + 2).toNatClampNeg)) (xs ((a3 + 3).toNatClampNeg)) u (fun v227 u226 =>
    vp_in (a3 + 1) N ∧
    vp_in (a3 + 2) N ∧
    vp_in (a3 + 3) N ∧
    w_X11_misses (xs ((a3 + 1).toNatClampNeg)) (xs ((a3 + 2).toNatClampNeg)) (xs ((a3 + 3).toNatClampNeg)) u226 (fun v232 u231 =>
    (v227 = v232 →
     w_L_law_c1247 N xs a3 u231 k18 Q) ∧
    (¬ v227 = v232 →
     Q 0 u231)))) ∧
   (v3 = 24 →
    vp_in (a3 + 1) N ∧
    w_X10_fits (xs ((a3 + 1).toNatClampNeg)) u (fun v237 u236 =>
    vp_in (a3 + 1) N ∧
    w_X11_fits (xs ((a3 + 1).toNatClampNeg)) u236 (fun v240 u239 =>
    (v237 = v240 →
     w_L_law_c1247 N xs a3 u239 k18 Q) ∧
    (¬ v237 = v240 →
     Q 0 u239)))) ∧
   (v3 = 25 →
    vp_in (a3 + 1) N ∧
    vp_in (a3 + 2) N ∧
    vp_in (a3 + 3) N ∧
    w_X10_sheet (xs ((a3 + 1).toNatClampNeg)) (xs ((a3 + 2).toNatClampNeg)) (xs ((a3 + 3).toNatClampNeg)) u (fun v247 u246 =>
    vp_in (a3 + 1) N ∧
    vp_in (a3 + 2) N ∧
    vp_in (a3 + 3) N ∧
    w_X11_sheet (xs ((a3 + 1).toNatClampNeg)) (xs ((a3 + 2).toNatClampNeg)) (xs ((a3 + 3).toNatClampNeg)) u246 (fun v252 u251 =>
    (v247 = v252 →
     w_L_law_c1247 N xs a3 u251 k18 Q) ∧
    (¬ v247 = v252 →
     Q 0 u251)))) ∧
   (v3 = 26 →
    vp_in (a3 + 1) N ∧
    w_X10_lose (xs ((a3 + 1).toNatClampNeg)) u (fun v257 u256 =>
    vp_in (a3 + 1) N ∧
    w_X11_lose (xs ((a3 + 1).toNatClampNeg)) u256 (fun v260 u259 =>
    (v257 = v260 →
     w_L_law_c1247 N xs a3 u259 k18 Q) ∧
    (¬ v257 = v260 →
     Q 0 u259)))) ∧
   (v3 = 27 →
    vp_in (a3 + 1) N ∧
    vp_in (a3 + 2) N ∧
    vp_in (a3 + 3) N ∧
    vp_in (a3 + 4) N ∧
    w_X10_put (xs ((a3 + 1).toNatClampNeg)) (xs ((a3 + 2).toNatClampNeg)) (xs ((a3 + 3).toNatClampNeg)) (xs ((a3 + 4).toNatClampNeg)) u (fun v268 u267 =>
    vp_in (a3 + 1) N ∧
    vp_in (a3 + 2) N ∧
    vp_in (a3 + 3) N ∧
    vp_in (a3 + 4) N ∧
    w_X11_put (xs ((a3 + 1).toNatClampNeg)) (xs ((a3 + 2).toNatClampNeg)) (xs ((a3 + 3).toNatClampNeg)) (xs ((a3 + 4).toNatClampNeg)) u267 (fun v274 u273 =>
    (v268 = v274 →
     w_L_law_c1247 N xs a3 u273 k18 Q) ∧
    (¬ v268 = v274 →
     Q 0 u273)))) ∧
   (v3 = 28 →
    vp_in (a3 + 1) N ∧
    vp_in (a3 + 2) N ∧
    vp_in (a3 + 3) N ∧
    w_X10_get (xs ((a3 + 1).toNatClampNeg)) (xs ((a3 + 2).toNatClampNeg)) (xs ((a3 + 3).toNatClampNeg)) u (fun v281 u280 =>
    vp_in (a3 + 1) N ∧
    vp_in (a3 + 2) N ∧
    vp_in (a3 + 3) N ∧
    w_X11_get (xs ((a3 + 1).toNatClampNeg)) (xs ((a3 + 2).toNatClampNeg)) (xs ((a3 + 3).toNatClampNeg)) u280 (fun v286 u285 =>
    (v281 = v286 →
     w_L_law_c1247 N xs a3 u285 k18 Q) ∧
    (¬ v281 = v286 →
     Q 0 u285)))) ∧
   (v3 = 29 →
    vp_in (a3 + 1) N ∧
    vp_in (a3 + 2) N ∧
    vp_in (a3 + 3) N ∧
    vp_in (a3 + 4) N ∧
    vp_in (a3 + 5) N ∧
    w_X10_copy (xs ((a3 + 1).toNatClampNeg)) (xs ((a3 + 2).toNatClampNeg)) (xs ((a3 + 3).toNatClampNeg)) (xs ((a3 + 4).toNatClampNeg)) (xs ((a3 + 5).toNatClampNeg)) u (fun v295 u294 =>
    vp_in (a3 + 1) N ∧
    vp_in (a3 + 2) N ∧
    vp_in (a3 + 3) N ∧
    vp_in (a3 + 4) N ∧
    vp_in (a3 + 5) N ∧
    w_X11_copy (xs ((a3 + 1).toNatClampNeg)) (xs ((a3 + 2).toNatClampNeg)) (xs ((a3 + 3).toNatClampNeg)) (xs ((a3 + 4).toNatClampNeg)) (xs ((a3 + 5).toNatClampNeg)) u294 (fun v302 u301 =>
    (v295 = v302 →
     w_L_law_c1247 N xs a3 u301 k18 Q) ∧
    (¬ v295 = v302 →
     Q 0 u301)))) ∧
   (v3 = 30 →
    vp_in (a3 + 1) N ∧
    vp_in (a3 + 2) N ∧
    w_X10_write (xs ((a3 + 1).toNatClampNeg)) (xs ((a3 + 2).toNatClampNeg)) u (fun v308 u307 =>
    vp_in (a3 + 1) N ∧
    vp_in (a3 + 2) N ∧
    w_X11_write (xs ((a3 + 1).toNatClampNeg)) (xs ((a3 + 2).toNatClampNeg)) u307 (fun v312 u311 =>
    (v308 = v312 →
     w_L_law_c1247 N xs a3 u311 k18 Q) ∧
    (¬ v308 = v312 →
     Q 0 u311)))) ∧
   (v3 = 31 →
    vp_in (a3 + 1) N ∧
    w_X10_count (xs ((a3 + 1).toNatClampNeg)) u (fun v317 u316 =>
    vp_in (a3 + 1) N ∧
    w_X11_count (xs ((a3 + 1).toNatClampNeg)) u316 (fun v320 u319 =>
    (v317 = v320 →
     w_L_law_c1247 N xs a3 u319 k18 Q) ∧
    (¬ v317 = v320 →
     Q 0 u319)))) ∧
   (v3 = 32 →
    w_X10_digest u (fun v324 u323 =>
    w_X11_digest u323 (fun v326 u325 =>
    ((lg_cmp v324 v326) = 0 →
     w_L_law_c1247 N xs a3 u325 k18 Q) ∧
    (¬ (lg_cmp v324 v326) = 0 →
     Q 0 u325)))) ∧
   ((v3.toInt < 0 ∨ 32 < v3.toInt) →
    w_L_law_c1247 N xs a3 u k18 Q))
set_option maxRecDepth 10000 in
theorem mb_L_law_c18 {N : Nat} {xs : Nat → Int32}  {a3 : Int32} {u : gg_M}  {k18 : Int32 × gg_M → Prop} {G : gg_T} {Q : Int32 → gg_M → Prop} (hG : gg_Cl (some (N, xs)) code 4 RL ret 12 (gg_eI Q) G)  (h : b_L_law_c18 N xs a3 u k18 Q)   (hk18 : ∀ s : Int32 × gg_M, k18 s → G 18 [some (.ref 110), some (.ref 0), some (.ref 1), some (.int s.1)] [] s.2) : G 18 [some (.ref 110), some (.ref 0), some (.ref 1), some (.int a3)] [] u := by
  unfold b_L_law_c18 at h
  refine gg_iload_n hG dL_law_18 rfl rfl ?_
  refine gg_aload_n hG dL_law_19 rfl rfl ?_
  refine gg_slen hG dL_law_20 rfl rfl ?_
  refine gg_bipush (v := 6) hG dL_law_21 (by decide) ?_
  refine gg_isub hG dL_law_23 ?_
  refine gg_ic_gt (tgt := 1253) hG dL_law_24 (by decide) (fun c1 => ?_) (fun c1 => ?_)
  · replace h := h.1 c1
    refine gg_iconst (v := 1) hG dL_law_1253 (by decide) ?_
    exact gg_iret hG dL_law_1254 rfl (gg_nb (Or.inr rfl)).1 ⟨_, rfl, h⟩
  · replace h := h.2 c1
    refine gg_aload_n hG dL_law_27 rfl rfl ?_
    refine gg_iload_n hG dL_law_28 rfl rfl ?_
    obtain ⟨h2, h⟩ := h
    refine gg_sld (j := a3.toNatClampNeg) hG dL_law_29 rfl h2 rfl ?_
    refine gg_bipush (v := 63) hG dL_law_30 (by decide) ?_
    refine gg_iand hG dL_law_32 ?_
    refine gg_ni (fun v3 e3 => ?_)
    replace h := h v3 e3
    by_cases c4 : v3 = 0
    · refine gg_tabIn (off := 147) (tgt := 180) hG dL_law_33 (by rw [c4]; decide) (by rw [c4]; decide) (by rw [c4]; decide) (by decide) ?_
      replace h := h.1 c4
      refine gg_aload_n hG dL_law_180 rfl rfl ?_
      refine gg_aload_n hG dL_law_181 rfl rfl ?_
      refine gg_iload_n hG dL_law_182 rfl rfl ?_
      refine gg_iconst (v := 1) hG dL_law_183 (by decide) ?_
      refine gg_iadd hG dL_law_184 ?_
      obtain ⟨h5, h⟩ := h
      refine gg_sld (j := (a3 + 1).toNatClampNeg) hG dL_law_185 rfl h5 rfl ?_
      refine gg_aload_n hG dL_law_186 rfl rfl ?_
      refine gg_iload_n hG dL_law_187 rfl rfl ?_
      refine gg_iconst (v := 2) hG dL_law_188 (by decide) ?_
      refine gg_iadd hG dL_law_189 ?_
      obtain ⟨h6, h⟩ := h
      refine gg_sld (j := (a3 + 2).toNatClampNeg) hG dL_law_190 rfl h6 rfl ?_
      refine gg_xv (As := [.int (xs ((a3 + 1).toNatClampNeg)), .int (xs ((a3 + 2).toNatClampNeg))]) (st := []) hG dL_law_191 ml_RL_13 Y_X10_type YV_X10_type (by decide) ⟨_, rfl, rfl⟩ (mt_X10_type h) rfl (by decide) (Nat.le_of_ble_eq_true rfl) rfl (gg_ki (fun v8 u7 h => ?_))
      refine gg_aload_n hG dL_law_194 rfl rfl ?_
      refine gg_aload_n hG dL_law_195 rfl rfl ?_
      refine gg_iload_n hG dL_law_196 rfl rfl ?_
      refine gg_iconst (v := 1) hG dL_law_197 (by decide) ?_
      refine gg_iadd hG dL_law_198 ?_
      obtain ⟨h9, h⟩ := h
      refine gg_sld (j := (a3 + 1).toNatClampNeg) hG dL_law_199 rfl h9 rfl ?_
      refine gg_aload_n hG dL_law_200 rfl rfl ?_
      refine gg_iload_n hG dL_law_201 rfl rfl ?_
      refine gg_iconst (v := 2) hG dL_law_202 (by decide) ?_
      refine gg_iadd hG dL_law_203 ?_
      obtain ⟨h10, h⟩ := h
      refine gg_sld (j := (a3 + 2).toNatClampNeg) hG dL_law_204 rfl h10 rfl ?_
      refine gg_xv (As := [.int (xs ((a3 + 1).toNatClampNeg)), .int (xs ((a3 + 2).toNatClampNeg))]) (st := [.int v8]) hG dL_law_205 ml_RL_17 Y_X11_type YV_X11_type (by decide) ⟨_, rfl, rfl⟩ (mt_X11_type h) rfl (by decide) (Nat.le_of_ble_eq_true rfl) rfl (gg_ki (fun v12 u11 h => ?_))
      refine gg_ic_eq (tgt := 1247) hG dL_law_208 (by decide) (fun c13 => ?_) (fun c13 => ?_)
      · replace h := h.1 c13
        exact m_L_law_c1247 hG h hk18
      · replace h := h.2 c13
        refine gg_iconst (v := 0) hG dL_law_211 (by decide) ?_
        exact gg_iret hG dL_law_212 rfl (gg_nb (Or.inl rfl)).1 ⟨_, rfl, h⟩
    by_cases c14 : v3 = 1
    · refine gg_tabIn (off := 180) (tgt := 213) hG dL_law_33 (by rw [c14]; decide) (by rw [c14]; decide) (by rw [c14]; decide) (by decide) ?_
      replace h := h.2.1 c14
      refine gg_aload_n hG dL_law_213 rfl rfl ?_
      refine gg_aload_n hG dL_law_214 rfl rfl ?_
      refine gg_iload_n hG dL_law_215 rfl rfl ?_
      refine gg_iconst (v := 1) hG dL_law_216 (by decide) ?_
      refine gg_iadd hG dL_law_217 ?_
      obtain ⟨h15, h⟩ := h
      refine gg_sld (j := (a3 + 1).toNatClampNeg) hG dL_law_218 rfl h15 rfl ?_
      refine gg_xv (As := [.int (xs ((a3 + 1).toNatClampNeg))]) (st := []) hG dL_law_219 ml_RL_18 Y_X10_wipe YV_X10_wipe (by decide) ⟨_, rfl, rfl⟩ (mt_X10_wipe h) rfl (by decide) (Nat.le_of_ble_eq_true rfl) rfl (gg_ki (fun v17 u16 h => ?_))
      refine gg_aload_n hG dL_law_222 rfl rfl ?_
      refine gg_aload_n hG dL_law_223 rfl rfl ?_
      refine gg_iload_n hG dL_law_224 rfl rfl ?_
      refine gg_iconst (v := 1) hG dL_law_225 (by decide) ?_
      refine gg_iadd hG dL_law_226 ?_
      obtain ⟨h18, h⟩ := h
      refine gg_sld (j := (a3 + 1).toNatClampNeg) hG dL_law_227 rfl h18 rfl ?_
      refine gg_xv (As := [.int (xs ((a3 + 1).toNatClampNeg))]) (st := [.int v17]) hG dL_law_228 ml_RL_22 Y_X11_wipe YV_X11_wipe (by decide) ⟨_, rfl, rfl⟩ (mt_X11_wipe h) rfl (by decide) (Nat.le_of_ble_eq_true rfl) rfl (gg_ki (fun v20 u19 h => ?_))
      refine gg_ic_eq (tgt := 1247) hG dL_law_231 (by decide) (fun c21 => ?_) (fun c21 => ?_)
      · replace h := h.1 c21
        exact m_L_law_c1247 hG h hk18
      · replace h := h.2 c21
        refine gg_iconst (v := 0) hG dL_law_234 (by decide) ?_
        exact gg_iret hG dL_law_235 rfl (gg_nb (Or.inl rfl)).1 ⟨_, rfl, h⟩
    by_cases c22 : v3 = 2
    · refine gg_tabIn (off := 203) (tgt := 236) hG dL_law_33 (by rw [c22]; decide) (by rw [c22]; decide) (by rw [c22]; decide) (by decide) ?_
      replace h := h.2.2.1 c22
      refine gg_aload_n hG dL_law_236 rfl rfl ?_
      refine gg_aload_n hG dL_law_237 rfl rfl ?_
      refine gg_iload_n hG dL_law_238 rfl rfl ?_
      refine gg_iconst (v := 1) hG dL_law_239 (by decide) ?_
      refine gg_iadd hG dL_law_240 ?_
      obtain ⟨h23, h⟩ := h
      refine gg_sld (j := (a3 + 1).toNatClampNeg) hG dL_law_241 rfl h23 rfl ?_
      refine gg_xv (As := [.int (xs ((a3 + 1).toNatClampNeg))]) (st := []) hG dL_law_242 ml_RL_23 Y_X10_fault YV_X10_fault (by decide) ⟨_, rfl, rfl⟩ (mt_X10_fault h) rfl (by decide) (Nat.le_of_ble_eq_true rfl) rfl (gg_ki (fun v25 u24 h => ?_))
      refine gg_aload_n hG dL_law_245 rfl rfl ?_
      refine gg_aload_n hG dL_law_246 rfl rfl ?_
      refine gg_iload_n hG dL_law_247 rfl rfl ?_
      refine gg_iconst (v := 1) hG dL_law_248 (by decide) ?_
      refine gg_iadd hG dL_law_249 ?_
      obtain ⟨h26, h⟩ := h
      refine gg_sld (j := (a3 + 1).toNatClampNeg) hG dL_law_250 rfl h26 rfl ?_
      refine gg_xv (As := [.int (xs ((a3 + 1).toNatClampNeg))]) (st := [.int v25]) hG dL_law_251 ml_RL_26 Y_X11_fault YV_X11_fault (by decide) ⟨_, rfl, rfl⟩ (mt_X11_fault h) rfl (by decide) (Nat.le_of_ble_eq_true rfl) rfl (gg_ki (fun v28 u27 h => ?_))
      refine gg_ic_eq (tgt := 1247) hG dL_law_254 (by decide) (fun c29 => ?_) (fun c29 => ?_)
      · replace h := h.1 c29
        exact m_L_law_c1247 hG h hk18
      · replace h := h.2 c29
        refine gg_iconst (v := 0) hG dL_law_257 (by decide) ?_
        exact gg_iret hG dL_law_258 rfl (gg_nb (Or.inl rfl)).1 ⟨_, rfl, h⟩
    by_cases c30 : v3 = 3
    · refine gg_tabIn (off := 226) (tgt := 259) hG dL_law_33 (by rw [c30]; decide) (by rw [c30]; decide) (by rw [c30]; decide) (by decide) ?_
      replace h := h.2.2.2.1 c30
      refine gg_aload_n hG dL_law_259 rfl rfl ?_
      refine gg_aload_n hG dL_law_260 rfl rfl ?_
      refine gg_iload_n hG dL_law_261 rfl rfl ?_
      refine gg_iconst (v := 1) hG dL_law_262 (by decide) ?_
      refine gg_iadd hG dL_law_263 ?_
      obtain ⟨h31, h⟩ := h
      refine gg_sld (j := (a3 + 1).toNatClampNeg) hG dL_law_264 rfl h31 rfl ?_
      refine gg_xv (As := [.int (xs ((a3 + 1).toNatClampNeg))]) (st := []) hG dL_law_265 ml_RL_27 Y_X10_motor YV_X10_motor (by decide) ⟨_, rfl, rfl⟩ (mt_X10_motor h) rfl (by decide) (Nat.le_of_ble_eq_true rfl) rfl (gg_ki (fun v33 u32 h => ?_))
      refine gg_aload_n hG dL_law_268 rfl rfl ?_
      refine gg_aload_n hG dL_law_269 rfl rfl ?_
      refine gg_iload_n hG dL_law_270 rfl rfl ?_
      refine gg_iconst (v := 1) hG dL_law_271 (by decide) ?_
      refine gg_iadd hG dL_law_272 ?_
      obtain ⟨h34, h⟩ := h
      refine gg_sld (j := (a3 + 1).toNatClampNeg) hG dL_law_273 rfl h34 rfl ?_
      refine gg_xv (As := [.int (xs ((a3 + 1).toNatClampNeg))]) (st := [.int v33]) hG dL_law_274 ml_RL_30 Y_X11_motor YV_X11_motor (by decide) ⟨_, rfl, rfl⟩ (mt_X11_motor h) rfl (by decide) (Nat.le_of_ble_eq_true rfl) rfl (gg_ki (fun v36 u35 h => ?_))
      refine gg_ic_eq (tgt := 1247) hG dL_law_277 (by decide) (fun c37 => ?_) (fun c37 => ?_)
      · replace h := h.1 c37
        exact m_L_law_c1247 hG h hk18
      · replace h := h.2 c37
        refine gg_iconst (v := 0) hG dL_law_280 (by decide) ?_
        exact gg_iret hG dL_law_281 rfl (gg_nb (Or.inl rfl)).1 ⟨_, rfl, h⟩
    by_cases c38 : v3 = 4
    · refine gg_tabIn (off := 249) (tgt := 282) hG dL_law_33 (by rw [c38]; decide) (by rw [c38]; decide) (by rw [c38]; decide) (by decide) ?_
      replace h := h.2.2.2.2.1 c38
      refine gg_aload_n hG dL_law_282 rfl rfl ?_
      refine gg_aload_n hG dL_law_283 rfl rfl ?_
      refine gg_iload_n hG dL_law_284 rfl rfl ?_
      refine gg_iconst (v := 1) hG dL_law_285 (by decide) ?_
      refine gg_iadd hG dL_law_286 ?_
      obtain ⟨h39, h⟩ := h
      refine gg_sld (j := (a3 + 1).toNatClampNeg) hG dL_law_287 rfl h39 rfl ?_
      refine gg_aload_n hG dL_law_288 rfl rfl ?_
      refine gg_iload_n hG dL_law_289 rfl rfl ?_
      refine gg_iconst (v := 2) hG dL_law_290 (by decide) ?_
      refine gg_iadd hG dL_law_291 ?_
      obtain ⟨h40, h⟩ := h
      refine gg_sld (j := (a3 + 2).toNatClampNeg) hG dL_law_292 rfl h40 rfl ?_
      refine gg_xv (As := [.int (xs ((a3 + 1).toNatClampNeg)), .int (xs ((a3 + 2).toNatClampNeg))]) (st := []) hG dL_law_293 ml_RL_31 Y_X10_ahead YV_X10_ahead (by decide) ⟨_, rfl, rfl⟩ (mt_X10_ahead h) rfl (by decide) (Nat.le_of_ble_eq_true rfl) rfl (gg_ki (fun v42 u41 h => ?_))
      refine gg_aload_n hG dL_law_296 rfl rfl ?_
      refine gg_aload_n hG dL_law_297 rfl rfl ?_
      refine gg_iload_n hG dL_law_298 rfl rfl ?_
      refine gg_iconst (v := 1) hG dL_law_299 (by decide) ?_
      refine gg_iadd hG dL_law_300 ?_
      obtain ⟨h43, h⟩ := h
      refine gg_sld (j := (a3 + 1).toNatClampNeg) hG dL_law_301 rfl h43 rfl ?_
      refine gg_aload_n hG dL_law_302 rfl rfl ?_
      refine gg_iload_n hG dL_law_303 rfl rfl ?_
      refine gg_iconst (v := 2) hG dL_law_304 (by decide) ?_
      refine gg_iadd hG dL_law_305 ?_
      obtain ⟨h44, h⟩ := h
      refine gg_sld (j := (a3 + 2).toNatClampNeg) hG dL_law_306 rfl h44 rfl ?_
      refine gg_xv (As := [.int (xs ((a3 + 1).toNatClampNeg)), .int (xs ((a3 + 2).toNatClampNeg))]) (st := [.int v42]) hG dL_law_307 ml_RL_34 Y_X11_ahead YV_X11_ahead (by decide) ⟨_, rfl, rfl⟩ (mt_X11_ahead h) rfl (by decide) (Nat.le_of_ble_eq_true rfl) rfl (gg_ki (fun v46 u45 h => ?_))
      refine gg_ic_eq (tgt := 1247) hG dL_law_310 (by decide) (fun c47 => ?_) (fun c47 => ?_)
      · replace h := h.1 c47
        exact m_L_law_c1247 hG h hk18
      · replace h := h.2 c47
        refine gg_iconst (v := 0) hG dL_law_313 (by decide) ?_
        exact gg_iret hG dL_law_314 rfl (gg_nb (Or.inl rfl)).1 ⟨_, rfl, h⟩
    by_cases c48 : v3 = 5
    · refine gg_tabIn (off := 282) (tgt := 315) hG dL_law_33 (by rw [c48]; decide) (by rw [c48]; decide) (by rw [c48]; decide) (by decide) ?_
      replace h := h.2.2.2.2.2.1 c48
      refine gg_aload_n hG dL_law_315 rfl rfl ?_
      refine gg_aload_n hG dL_law_316 rfl rfl ?_
      refine gg_iload_n hG dL_law_317 rfl rfl ?_
      refine gg_iconst (v := 1) hG dL_law_318 (by decide) ?_
      refine gg_iadd hG dL_law_319 ?_
      obtain ⟨h49, h⟩ := h
      refine gg_sld (j := (a3 + 1).toNatClampNeg) hG dL_law_320 rfl h49 rfl ?_
      refine gg_aload_n hG dL_law_321 rfl rfl ?_
      refine gg_iload_n hG dL_law_322 rfl rfl ?_
      refine gg_iconst (v := 2) hG dL_law_323 (by decide) ?_
      refine gg_iadd hG dL_law_324 ?_
      obtain ⟨h50, h⟩ := h
      refine gg_sld (j := (a3 + 2).toNatClampNeg) hG dL_law_325 rfl h50 rfl ?_
      refine gg_xv (As := [.int (xs ((a3 + 1).toNatClampNeg)), .int (xs ((a3 + 2).toNatClampNeg))]) (st := []) hG dL_law_326 ml_RL_35 Y_X10_see YV_X10_see (by decide) ⟨_, rfl, rfl⟩ (mt_X10_see h) rfl (by decide) (Nat.le_of_ble_eq_true rfl) rfl (gg_ki (fun v52 u51 h => ?_))
      refine gg_aload_n hG dL_law_329 rfl rfl ?_
      refine gg_aload_n hG dL_law_330 rfl rfl ?_
      refine gg_iload_n hG dL_law_331 rfl rfl ?_
      refine gg_iconst (v := 1) hG dL_law_332 (by decide) ?_
      refine gg_iadd hG dL_law_333 ?_
      obtain ⟨h53, h⟩ := h
      refine gg_sld (j := (a3 + 1).toNatClampNeg) hG dL_law_334 rfl h53 rfl ?_
      refine gg_aload_n hG dL_law_335 rfl rfl ?_
      refine gg_iload_n hG dL_law_336 rfl rfl ?_
      refine gg_iconst (v := 2) hG dL_law_337 (by decide) ?_
      refine gg_iadd hG dL_law_338 ?_
      obtain ⟨h54, h⟩ := h
      refine gg_sld (j := (a3 + 2).toNatClampNeg) hG dL_law_339 rfl h54 rfl ?_
      refine gg_xv (As := [.int (xs ((a3 + 1).toNatClampNeg)), .int (xs ((a3 + 2).toNatClampNeg))]) (st := [.int v52]) hG dL_law_340 ml_RL_38 Y_X11_see YV_X11_see (by decide) ⟨_, rfl, rfl⟩ (mt_X11_see h) rfl (by decide) (Nat.le_of_ble_eq_true rfl) rfl (gg_ki (fun v56 u55 h => ?_))
      refine gg_ic_eq (tgt := 1247) hG dL_law_343 (by decide) (fun c57 => ?_) (fun c57 => ?_)
      · replace h := h.1 c57
        exact m_L_law_c1247 hG h hk18
      · replace h := h.2 c57
        refine gg_iconst (v := 0) hG dL_law_346 (by decide) ?_
        exact gg_iret hG dL_law_347 rfl (gg_nb (Or.inl rfl)).1 ⟨_, rfl, h⟩
    by_cases c58 : v3 = 6
    · refine gg_tabIn (off := 315) (tgt := 348) hG dL_law_33 (by rw [c58]; decide) (by rw [c58]; decide) (by rw [c58]; decide) (by decide) ?_
      replace h := h.2.2.2.2.2.2.1 c58
      refine gg_aload_n hG dL_law_348 rfl rfl ?_
      refine gg_aload_n hG dL_law_349 rfl rfl ?_
      refine gg_iload_n hG dL_law_350 rfl rfl ?_
      refine gg_iconst (v := 1) hG dL_law_351 (by decide) ?_
      refine gg_iadd hG dL_law_352 ?_
      obtain ⟨h59, h⟩ := h
      refine gg_sld (j := (a3 + 1).toNatClampNeg) hG dL_law_353 rfl h59 rfl ?_
      refine gg_xv (As := [.int (xs ((a3 + 1).toNatClampNeg))]) (st := []) hG dL_law_354 ml_RL_39 Y_X10_read YV_X10_read (by decide) ⟨_, rfl, rfl⟩ (mt_X10_read h) rfl (by decide) (Nat.le_of_ble_eq_true rfl) rfl (gg_ki (fun v61 u60 h => ?_))
      refine gg_aload_n hG dL_law_357 rfl rfl ?_
      refine gg_aload_n hG dL_law_358 rfl rfl ?_
      refine gg_iload_n hG dL_law_359 rfl rfl ?_
      refine gg_iconst (v := 1) hG dL_law_360 (by decide) ?_
      refine gg_iadd hG dL_law_361 ?_
      obtain ⟨h62, h⟩ := h
      refine gg_sld (j := (a3 + 1).toNatClampNeg) hG dL_law_362 rfl h62 rfl ?_
      refine gg_xv (As := [.int (xs ((a3 + 1).toNatClampNeg))]) (st := [.int v61]) hG dL_law_363 ml_RL_42 Y_X11_read YV_X11_read (by decide) ⟨_, rfl, rfl⟩ (mt_X11_read h) rfl (by decide) (Nat.le_of_ble_eq_true rfl) rfl (gg_ki (fun v64 u63 h => ?_))
      refine gg_ic_eq (tgt := 1247) hG dL_law_366 (by decide) (fun c65 => ?_) (fun c65 => ?_)
      · replace h := h.1 c65
        exact m_L_law_c1247 hG h hk18
      · replace h := h.2 c65
        refine gg_iconst (v := 0) hG dL_law_369 (by decide) ?_
        exact gg_iret hG dL_law_370 rfl (gg_nb (Or.inl rfl)).1 ⟨_, rfl, h⟩
    by_cases c66 : v3 = 7
    · refine gg_tabIn (off := 338) (tgt := 371) hG dL_law_33 (by rw [c66]; decide) (by rw [c66]; decide) (by rw [c66]; decide) (by decide) ?_
      replace h := h.2.2.2.2.2.2.2.1 c66
      refine gg_aload_n hG dL_law_371 rfl rfl ?_
      refine gg_xv (As := []) (st := []) hG dL_law_372 ml_RL_43 Y_X10_back YV_X10_back (by decide) ⟨_, rfl, rfl⟩ (mt_X10_back h) rfl (by decide) (Nat.le_of_ble_eq_true rfl) rfl (gg_ki (fun v68 u67 h => ?_))
      refine gg_aload_n hG dL_law_375 rfl rfl ?_
      refine gg_xv (As := []) (st := [.int v68]) hG dL_law_376 ml_RL_47 Y_X11_back YV_X11_back (by decide) ⟨_, rfl, rfl⟩ (mt_X11_back h) rfl (by decide) (Nat.le_of_ble_eq_true rfl) rfl (gg_ki (fun v70 u69 h => ?_))
      refine gg_ic_eq (tgt := 1247) hG dL_law_379 (by decide) (fun c71 => ?_) (fun c71 => ?_)
      · replace h := h.1 c71
        exact m_L_law_c1247 hG h hk18
      · replace h := h.2 c71
        refine gg_iconst (v := 0) hG dL_law_382 (by decide) ?_
        exact gg_iret hG dL_law_383 rfl (gg_nb (Or.inl rfl)).1 ⟨_, rfl, h⟩
    by_cases c72 : v3 = 8
    · refine gg_tabIn (off := 351) (tgt := 384) hG dL_law_33 (by rw [c72]; decide) (by rw [c72]; decide) (by rw [c72]; decide) (by decide) ?_
      replace h := h.2.2.2.2.2.2.2.2.1 c72
      refine gg_aload_n hG dL_law_384 rfl rfl ?_
      refine gg_xv (As := []) (st := []) hG dL_law_385 ml_RL_48 Y_X10_left YV_X10_left (by decide) ⟨_, rfl, rfl⟩ (mt_X10_left h) rfl (by decide) (Nat.le_of_ble_eq_true rfl) rfl (gg_ki (fun v74 u73 h => ?_))
      refine gg_aload_n hG dL_law_388 rfl rfl ?_
      refine gg_xv (As := []) (st := [.int v74]) hG dL_law_389 ml_RL_51 Y_X11_left YV_X11_left (by decide) ⟨_, rfl, rfl⟩ (mt_X11_left h) rfl (by decide) (Nat.le_of_ble_eq_true rfl) rfl (gg_ki (fun v76 u75 h => ?_))
      refine gg_ic_eq (tgt := 1247) hG dL_law_392 (by decide) (fun c77 => ?_) (fun c77 => ?_)
      · replace h := h.1 c77
        exact m_L_law_c1247 hG h hk18
      · replace h := h.2 c77
        refine gg_iconst (v := 0) hG dL_law_395 (by decide) ?_
        exact gg_iret hG dL_law_396 rfl (gg_nb (Or.inl rfl)).1 ⟨_, rfl, h⟩
    by_cases c78 : v3 = 9
    · refine gg_tabIn (off := 364) (tgt := 397) hG dL_law_33 (by rw [c78]; decide) (by rw [c78]; decide) (by rw [c78]; decide) (by decide) ?_
      replace h := h.2.2.2.2.2.2.2.2.2.1 c78
      refine gg_aload_n hG dL_law_397 rfl rfl ?_
      refine gg_aload_n hG dL_law_398 rfl rfl ?_
      refine gg_iload_n hG dL_law_399 rfl rfl ?_
      refine gg_iconst (v := 1) hG dL_law_400 (by decide) ?_
      refine gg_iadd hG dL_law_401 ?_
      obtain ⟨h79, h⟩ := h
      refine gg_sld (j := (a3 + 1).toNatClampNeg) hG dL_law_402 rfl h79 rfl ?_
      refine gg_aload_n hG dL_law_403 rfl rfl ?_
      refine gg_iload_n hG dL_law_404 rfl rfl ?_
      refine gg_iconst (v := 2) hG dL_law_405 (by decide) ?_
      refine gg_iadd hG dL_law_406 ?_
      obtain ⟨h80, h⟩ := h
      refine gg_sld (j := (a3 + 2).toNatClampNeg) hG dL_law_407 rfl h80 rfl ?_
      refine gg_xv (As := [.int (xs ((a3 + 1).toNatClampNeg)), .int (xs ((a3 + 2).toNatClampNeg))]) (st := []) hG dL_law_408 ml_RL_52 Y_X10_odds YV_X10_odds (by decide) ⟨_, rfl, rfl⟩ (mt_X10_odds h) rfl (by decide) (Nat.le_of_ble_eq_true rfl) rfl (gg_kj (fun v82 u81 h => ?_))
      refine gg_aload_n hG dL_law_411 rfl rfl ?_
      refine gg_aload_n hG dL_law_412 rfl rfl ?_
      refine gg_iload_n hG dL_law_413 rfl rfl ?_
      refine gg_iconst (v := 1) hG dL_law_414 (by decide) ?_
      refine gg_iadd hG dL_law_415 ?_
      obtain ⟨h83, h⟩ := h
      refine gg_sld (j := (a3 + 1).toNatClampNeg) hG dL_law_416 rfl h83 rfl ?_
      refine gg_aload_n hG dL_law_417 rfl rfl ?_
      refine gg_iload_n hG dL_law_418 rfl rfl ?_
      refine gg_iconst (v := 2) hG dL_law_419 (by decide) ?_
      refine gg_iadd hG dL_law_420 ?_
      obtain ⟨h84, h⟩ := h
      refine gg_sld (j := (a3 + 2).toNatClampNeg) hG dL_law_421 rfl h84 rfl ?_
      refine gg_xv (As := [.int (xs ((a3 + 1).toNatClampNeg)), .int (xs ((a3 + 2).toNatClampNeg))]) (st := [.long v82]) hG dL_law_422 ml_RL_56 Y_X11_odds YV_X11_odds (by decide) ⟨_, rfl, rfl⟩ (mt_X11_odds h) rfl (by decide) (Nat.le_of_ble_eq_true rfl) rfl (gg_kj (fun v86 u85 h => ?_))
      refine gg_lcmp hG dL_law_425 ?_
      refine gg_if_eq (tgt := 1247) hG dL_law_426 (by decide) (fun c87 => ?_) (fun c87 => ?_)
      · replace h := h.1 c87
        exact m_L_law_c1247 hG h hk18
      · replace h := h.2 c87
        refine gg_iconst (v := 0) hG dL_law_429 (by decide) ?_
        exact gg_iret hG dL_law_430 rfl (gg_nb (Or.inl rfl)).1 ⟨_, rfl, h⟩
    by_cases c88 : v3 = 10
    · refine gg_tabIn (off := 398) (tgt := 431) hG dL_law_33 (by rw [c88]; decide) (by rw [c88]; decide) (by rw [c88]; decide) (by decide) ?_
      replace h := h.2.2.2.2.2.2.2.2.2.2.1 c88
      refine gg_aload_n hG dL_law_431 rfl rfl ?_
      refine gg_aload_n hG dL_law_432 rfl rfl ?_
      refine gg_iload_n hG dL_law_433 rfl rfl ?_
      refine gg_iconst (v := 1) hG dL_law_434 (by decide) ?_
      refine gg_iadd hG dL_law_435 ?_
      obtain ⟨h89, h⟩ := h
      refine gg_sld (j := (a3 + 1).toNatClampNeg) hG dL_law_436 rfl h89 rfl ?_
      refine gg_aload_n hG dL_law_437 rfl rfl ?_
      refine gg_iload_n hG dL_law_438 rfl rfl ?_
      refine gg_iconst (v := 2) hG dL_law_439 (by decide) ?_
      refine gg_iadd hG dL_law_440 ?_
      obtain ⟨h90, h⟩ := h
      refine gg_sld (j := (a3 + 2).toNatClampNeg) hG dL_law_441 rfl h90 rfl ?_
      refine gg_xv (As := [.int (xs ((a3 + 1).toNatClampNeg)), .int (xs ((a3 + 2).toNatClampNeg))]) (st := []) hG dL_law_442 ml_RL_57 Y_X10_trouble YV_X10_trouble (by decide) ⟨_, rfl, rfl⟩ (mt_X10_trouble h) rfl (by decide) (Nat.le_of_ble_eq_true rfl) rfl (gg_kj (fun v92 u91 h => ?_))
      refine gg_aload_n hG dL_law_445 rfl rfl ?_
      refine gg_aload_n hG dL_law_446 rfl rfl ?_
      refine gg_iload_n hG dL_law_447 rfl rfl ?_
      refine gg_iconst (v := 1) hG dL_law_448 (by decide) ?_
      refine gg_iadd hG dL_law_449 ?_
      obtain ⟨h93, h⟩ := h
      refine gg_sld (j := (a3 + 1).toNatClampNeg) hG dL_law_450 rfl h93 rfl ?_
      refine gg_aload_n hG dL_law_451 rfl rfl ?_
      refine gg_iload_n hG dL_law_452 rfl rfl ?_
      refine gg_iconst (v := 2) hG dL_law_453 (by decide) ?_
      refine gg_iadd hG dL_law_454 ?_
      obtain ⟨h94, h⟩ := h
      refine gg_sld (j := (a3 + 2).toNatClampNeg) hG dL_law_455 rfl h94 rfl ?_
      refine gg_xv (As := [.int (xs ((a3 + 1).toNatClampNeg)), .int (xs ((a3 + 2).toNatClampNeg))]) (st := [.long v92]) hG dL_law_456 ml_RL_60 Y_X11_trouble YV_X11_trouble (by decide) ⟨_, rfl, rfl⟩ (mt_X11_trouble h) rfl (by decide) (Nat.le_of_ble_eq_true rfl) rfl (gg_kj (fun v96 u95 h => ?_))
      refine gg_lcmp hG dL_law_459 ?_
      refine gg_if_eq (tgt := 1247) hG dL_law_460 (by decide) (fun c97 => ?_) (fun c97 => ?_)
      · replace h := h.1 c97
        exact m_L_law_c1247 hG h hk18
      · replace h := h.2 c97
        refine gg_iconst (v := 0) hG dL_law_463 (by decide) ?_
        exact gg_iret hG dL_law_464 rfl (gg_nb (Or.inl rfl)).1 ⟨_, rfl, h⟩
    by_cases c98 : v3 = 11
    · refine gg_tabIn (off := 432) (tgt := 465) hG dL_law_33 (by rw [c98]; decide) (by rw [c98]; decide) (by rw [c98]; decide) (by decide) ?_
      replace h := h.2.2.2.2.2.2.2.2.2.2.2.1 c98
      refine gg_aload_n hG dL_law_465 rfl rfl ?_
      refine gg_aload_n hG dL_law_466 rfl rfl ?_
      refine gg_iload_n hG dL_law_467 rfl rfl ?_
      refine gg_iconst (v := 1) hG dL_law_468 (by decide) ?_
      refine gg_iadd hG dL_law_469 ?_
      obtain ⟨h99, h⟩ := h
      refine gg_sld (j := (a3 + 1).toNatClampNeg) hG dL_law_470 rfl h99 rfl ?_
      refine gg_aload_n hG dL_law_471 rfl rfl ?_
      refine gg_iload_n hG dL_law_472 rfl rfl ?_
      refine gg_iconst (v := 2) hG dL_law_473 (by decide) ?_
      refine gg_iadd hG dL_law_474 ?_
      obtain ⟨h100, h⟩ := h
      refine gg_sld (j := (a3 + 2).toNatClampNeg) hG dL_law_475 rfl h100 rfl ?_
      refine gg_xv (As := [.int (xs ((a3 + 1).toNatClampNeg)), .int (xs ((a3 + 2).toNatClampNeg))]) (st := []) hG dL_law_476 ml_RL_61 Y_X10_state YV_X10_state (by decide) ⟨_, rfl, rfl⟩ (mt_X10_state h) rfl (by decide) (Nat.le_of_ble_eq_true rfl) rfl (gg_ki (fun v102 u101 h => ?_))
      refine gg_aload_n hG dL_law_479 rfl rfl ?_
      refine gg_aload_n hG dL_law_480 rfl rfl ?_
      refine gg_iload_n hG dL_law_481 rfl rfl ?_
      refine gg_iconst (v := 1) hG dL_law_482 (by decide) ?_
      refine gg_iadd hG dL_law_483 ?_
      obtain ⟨h103, h⟩ := h
      refine gg_sld (j := (a3 + 1).toNatClampNeg) hG dL_law_484 rfl h103 rfl ?_
      refine gg_aload_n hG dL_law_485 rfl rfl ?_
      refine gg_iload_n hG dL_law_486 rfl rfl ?_
      refine gg_iconst (v := 2) hG dL_law_487 (by decide) ?_
      refine gg_iadd hG dL_law_488 ?_
      obtain ⟨h104, h⟩ := h
      refine gg_sld (j := (a3 + 2).toNatClampNeg) hG dL_law_489 rfl h104 rfl ?_
      refine gg_xv (As := [.int (xs ((a3 + 1).toNatClampNeg)), .int (xs ((a3 + 2).toNatClampNeg))]) (st := [.int v102]) hG dL_law_490 ml_RL_64 Y_X11_state YV_X11_state (by decide) ⟨_, rfl, rfl⟩ (mt_X11_state h) rfl (by decide) (Nat.le_of_ble_eq_true rfl) rfl (gg_ki (fun v106 u105 h => ?_))
      refine gg_ic_eq (tgt := 1247) hG dL_law_493 (by decide) (fun c107 => ?_) (fun c107 => ?_)
      · replace h := h.1 c107
        exact m_L_law_c1247 hG h hk18
      · replace h := h.2 c107
        refine gg_iconst (v := 0) hG dL_law_496 (by decide) ?_
        exact gg_iret hG dL_law_497 rfl (gg_nb (Or.inl rfl)).1 ⟨_, rfl, h⟩
    by_cases c108 : v3 = 12
    · refine gg_tabIn (off := 465) (tgt := 498) hG dL_law_33 (by rw [c108]; decide) (by rw [c108]; decide) (by rw [c108]; decide) (by decide) ?_
      replace h := h.2.2.2.2.2.2.2.2.2.2.2.2.1 c108
      refine gg_aload_n hG dL_law_498 rfl rfl ?_
      refine gg_aload_n hG dL_law_499 rfl rfl ?_
      refine gg_iload_n hG dL_law_500 rfl rfl ?_
      refine gg_iconst (v := 1) hG dL_law_501 (by decide) ?_
      refine gg_iadd hG dL_law_502 ?_
      obtain ⟨h109, h⟩ := h
      refine gg_sld (j := (a3 + 1).toNatClampNeg) hG dL_law_503 rfl h109 rfl ?_
      refine gg_aload_n hG dL_law_504 rfl rfl ?_
      refine gg_iload_n hG dL_law_505 rfl rfl ?_
      refine gg_iconst (v := 2) hG dL_law_506 (by decide) ?_
      refine gg_iadd hG dL_law_507 ?_
      obtain ⟨h110, h⟩ := h
      refine gg_sld (j := (a3 + 2).toNatClampNeg) hG dL_law_508 rfl h110 rfl ?_
      refine gg_xv (As := [.int (xs ((a3 + 1).toNatClampNeg)), .int (xs ((a3 + 2).toNatClampNeg))]) (st := []) hG dL_law_509 ml_RL_65 Y_X10_sign YV_X10_sign (by decide) ⟨_, rfl, rfl⟩ (mt_X10_sign h) rfl (by decide) (Nat.le_of_ble_eq_true rfl) rfl (gg_ki (fun v112 u111 h => ?_))
      refine gg_aload_n hG dL_law_512 rfl rfl ?_
      refine gg_aload_n hG dL_law_513 rfl rfl ?_
      refine gg_iload_n hG dL_law_514 rfl rfl ?_
      refine gg_iconst (v := 1) hG dL_law_515 (by decide) ?_
      refine gg_iadd hG dL_law_516 ?_
      obtain ⟨h113, h⟩ := h
      refine gg_sld (j := (a3 + 1).toNatClampNeg) hG dL_law_517 rfl h113 rfl ?_
      refine gg_aload_n hG dL_law_518 rfl rfl ?_
      refine gg_iload_n hG dL_law_519 rfl rfl ?_
      refine gg_iconst (v := 2) hG dL_law_520 (by decide) ?_
      refine gg_iadd hG dL_law_521 ?_
      obtain ⟨h114, h⟩ := h
      refine gg_sld (j := (a3 + 2).toNatClampNeg) hG dL_law_522 rfl h114 rfl ?_
      refine gg_xv (As := [.int (xs ((a3 + 1).toNatClampNeg)), .int (xs ((a3 + 2).toNatClampNeg))]) (st := [.int v112]) hG dL_law_523 ml_RL_68 Y_X11_sign YV_X11_sign (by decide) ⟨_, rfl, rfl⟩ (mt_X11_sign h) rfl (by decide) (Nat.le_of_ble_eq_true rfl) rfl (gg_ki (fun v116 u115 h => ?_))
      refine gg_ic_eq (tgt := 1247) hG dL_law_526 (by decide) (fun c117 => ?_) (fun c117 => ?_)
      · replace h := h.1 c117
        exact m_L_law_c1247 hG h hk18
      · replace h := h.2 c117
        refine gg_iconst (v := 0) hG dL_law_529 (by decide) ?_
        exact gg_iret hG dL_law_530 rfl (gg_nb (Or.inl rfl)).1 ⟨_, rfl, h⟩
    by_cases c118 : v3 = 13
    · refine gg_tabIn (off := 498) (tgt := 531) hG dL_law_33 (by rw [c118]; decide) (by rw [c118]; decide) (by rw [c118]; decide) (by decide) ?_
      replace h := h.2.2.2.2.2.2.2.2.2.2.2.2.2.1 c118
      refine gg_aload_n hG dL_law_531 rfl rfl ?_
      refine gg_aload_n hG dL_law_532 rfl rfl ?_
      refine gg_iload_n hG dL_law_533 rfl rfl ?_
      refine gg_iconst (v := 1) hG dL_law_534 (by decide) ?_
      refine gg_iadd hG dL_law_535 ?_
      obtain ⟨h119, h⟩ := h
      refine gg_sld (j := (a3 + 1).toNatClampNeg) hG dL_law_536 rfl h119 rfl ?_
      refine gg_aload_n hG dL_law_537 rfl rfl ?_
      refine gg_iload_n hG dL_law_538 rfl rfl ?_
      refine gg_iconst (v := 2) hG dL_law_539 (by decide) ?_
      refine gg_iadd hG dL_law_540 ?_
      obtain ⟨h120, h⟩ := h
      refine gg_sld (j := (a3 + 2).toNatClampNeg) hG dL_law_541 rfl h120 rfl ?_
      refine gg_aload_n hG dL_law_542 rfl rfl ?_
      refine gg_iload_n hG dL_law_543 rfl rfl ?_
      refine gg_iconst (v := 3) hG dL_law_544 (by decide) ?_
      refine gg_iadd hG dL_law_545 ?_
      obtain ⟨h121, h⟩ := h
      refine gg_sld (j := (a3 + 3).toNatClampNeg) hG dL_law_546 rfl h121 rfl ?_
      refine gg_xv (As := [.int (xs ((a3 + 1).toNatClampNeg)), .int (xs ((a3 + 2).toNatClampNeg)), .int (xs ((a3 + 3).toNatClampNeg))]) (st := []) hG dL_law_547 ml_RL_69 Y_X10_chance YV_X10_chance (by decide) ⟨_, rfl, rfl⟩ (mt_X10_chance h) rfl (by decide) (Nat.le_of_ble_eq_true rfl) rfl (gg_kj (fun v123 u122 h => ?_))
      refine gg_aload_n hG dL_law_550 rfl rfl ?_
      refine gg_aload_n hG dL_law_551 rfl rfl ?_
      refine gg_iload_n hG dL_law_552 rfl rfl ?_
      refine gg_iconst (v := 1) hG dL_law_553 (by decide) ?_
      refine gg_iadd hG dL_law_554 ?_
      obtain ⟨h124, h⟩ := h
      refine gg_sld (j := (a3 + 1).toNatClampNeg) hG dL_law_555 rfl h124 rfl ?_
      refine gg_aload_n hG dL_law_556 rfl rfl ?_
      refine gg_iload_n hG dL_law_557 rfl rfl ?_
      refine gg_iconst (v := 2) hG dL_law_558 (by decide) ?_
      refine gg_iadd hG dL_law_559 ?_
      obtain ⟨h125, h⟩ := h
      refine gg_sld (j := (a3 + 2).toNatClampNeg) hG dL_law_560 rfl h125 rfl ?_
      refine gg_aload_n hG dL_law_561 rfl rfl ?_
      refine gg_iload_n hG dL_law_562 rfl rfl ?_
      refine gg_iconst (v := 3) hG dL_law_563 (by decide) ?_
      refine gg_iadd hG dL_law_564 ?_
      obtain ⟨h126, h⟩ := h
      refine gg_sld (j := (a3 + 3).toNatClampNeg) hG dL_law_565 rfl h126 rfl ?_
      refine gg_xv (As := [.int (xs ((a3 + 1).toNatClampNeg)), .int (xs ((a3 + 2).toNatClampNeg)), .int (xs ((a3 + 3).toNatClampNeg))]) (st := [.long v123]) hG dL_law_566 ml_RL_73 Y_X11_chance YV_X11_chance (by decide) ⟨_, rfl, rfl⟩ (mt_X11_chance h) rfl (by decide) (Nat.le_of_ble_eq_true rfl) rfl (gg_kj (fun v128 u127 h => ?_))
      refine gg_lcmp hG dL_law_569 ?_
      refine gg_if_eq (tgt := 1247) hG dL_law_570 (by decide) (fun c129 => ?_) (fun c129 => ?_)
      · replace h := h.1 c129
        exact m_L_law_c1247 hG h hk18
      · replace h := h.2 c129
        refine gg_iconst (v := 0) hG dL_law_573 (by decide) ?_
        exact gg_iret hG dL_law_574 rfl (gg_nb (Or.inl rfl)).1 ⟨_, rfl, h⟩
    by_cases c130 : v3 = 14
    · refine gg_tabIn (off := 542) (tgt := 575) hG dL_law_33 (by rw [c130]; decide) (by rw [c130]; decide) (by rw [c130]; decide) (by decide) ?_
      replace h := h.2.2.2.2.2.2.2.2.2.2.2.2.2.2.1 c130
      refine gg_aload_n hG dL_law_575 rfl rfl ?_
      refine gg_aload_n hG dL_law_576 rfl rfl ?_
      refine gg_iload_n hG dL_law_577 rfl rfl ?_
      refine gg_iconst (v := 1) hG dL_law_578 (by decide) ?_
      refine gg_iadd hG dL_law_579 ?_
      obtain ⟨h131, h⟩ := h
      refine gg_sld (j := (a3 + 1).toNatClampNeg) hG dL_law_580 rfl h131 rfl ?_
      refine gg_xv (As := [.int (xs ((a3 + 1).toNatClampNeg))]) (st := []) hG dL_law_581 ml_RL_74 Y_X10_parts YV_X10_parts (by decide) ⟨_, rfl, rfl⟩ (mt_X10_parts h) rfl (by decide) (Nat.le_of_ble_eq_true rfl) rfl (gg_ki (fun v133 u132 h => ?_))
      refine gg_aload_n hG dL_law_584 rfl rfl ?_
      refine gg_aload_n hG dL_law_585 rfl rfl ?_
      refine gg_iload_n hG dL_law_586 rfl rfl ?_
      refine gg_iconst (v := 1) hG dL_law_587 (by decide) ?_
      refine gg_iadd hG dL_law_588 ?_
      obtain ⟨h134, h⟩ := h
      refine gg_sld (j := (a3 + 1).toNatClampNeg) hG dL_law_589 rfl h134 rfl ?_
      refine gg_xv (As := [.int (xs ((a3 + 1).toNatClampNeg))]) (st := [.int v133]) hG dL_law_590 ml_RL_77 Y_X11_parts YV_X11_parts (by decide) ⟨_, rfl, rfl⟩ (mt_X11_parts h) rfl (by decide) (Nat.le_of_ble_eq_true rfl) rfl (gg_ki (fun v136 u135 h => ?_))
      refine gg_ic_eq (tgt := 1247) hG dL_law_593 (by decide) (fun c137 => ?_) (fun c137 => ?_)
      · replace h := h.1 c137
        exact m_L_law_c1247 hG h hk18
      · replace h := h.2 c137
        refine gg_iconst (v := 0) hG dL_law_596 (by decide) ?_
        exact gg_iret hG dL_law_597 rfl (gg_nb (Or.inl rfl)).1 ⟨_, rfl, h⟩
    by_cases c138 : v3 = 15
    · refine gg_tabIn (off := 565) (tgt := 598) hG dL_law_33 (by rw [c138]; decide) (by rw [c138]; decide) (by rw [c138]; decide) (by decide) ?_
      replace h := h.2.2.2.2.2.2.2.2.2.2.2.2.2.2.2.1 c138
      refine gg_aload_n hG dL_law_598 rfl rfl ?_
      refine gg_aload_n hG dL_law_599 rfl rfl ?_
      refine gg_iload_n hG dL_law_600 rfl rfl ?_
      refine gg_iconst (v := 1) hG dL_law_601 (by decide) ?_
      refine gg_iadd hG dL_law_602 ?_
      obtain ⟨h139, h⟩ := h
      refine gg_sld (j := (a3 + 1).toNatClampNeg) hG dL_law_603 rfl h139 rfl ?_
      refine gg_aload_n hG dL_law_604 rfl rfl ?_
      refine gg_iload_n hG dL_law_605 rfl rfl ?_
      refine gg_iconst (v := 2) hG dL_law_606 (by decide) ?_
      refine gg_iadd hG dL_law_607 ?_
      obtain ⟨h140, h⟩ := h
      refine gg_sld (j := (a3 + 2).toNatClampNeg) hG dL_law_608 rfl h140 rfl ?_
      refine gg_xv (As := [.int (xs ((a3 + 1).toNatClampNeg)), .int (xs ((a3 + 2).toNatClampNeg))]) (st := []) hG dL_law_609 ml_RL_78 Y_X10_sure YV_X10_sure (by decide) ⟨_, rfl, rfl⟩ (mt_X10_sure h) rfl (by decide) (Nat.le_of_ble_eq_true rfl) rfl (gg_kj (fun v142 u141 h => ?_))
      refine gg_aload_n hG dL_law_612 rfl rfl ?_
      refine gg_aload_n hG dL_law_613 rfl rfl ?_
      refine gg_iload_n hG dL_law_614 rfl rfl ?_
      refine gg_iconst (v := 1) hG dL_law_615 (by decide) ?_
      refine gg_iadd hG dL_law_616 ?_
      obtain ⟨h143, h⟩ := h
      refine gg_sld (j := (a3 + 1).toNatClampNeg) hG dL_law_617 rfl h143 rfl ?_
      refine gg_aload_n hG dL_law_618 rfl rfl ?_
      refine gg_iload_n hG dL_law_619 rfl rfl ?_
      refine gg_iconst (v := 2) hG dL_law_620 (by decide) ?_
      refine gg_iadd hG dL_law_621 ?_
      obtain ⟨h144, h⟩ := h
      refine gg_sld (j := (a3 + 2).toNatClampNeg) hG dL_law_622 rfl h144 rfl ?_
      refine gg_xv (As := [.int (xs ((a3 + 1).toNatClampNeg)), .int (xs ((a3 + 2).toNatClampNeg))]) (st := [.long v142]) hG dL_law_623 ml_RL_81 Y_X11_sure YV_X11_sure (by decide) ⟨_, rfl, rfl⟩ (mt_X11_sure h) rfl (by decide) (Nat.le_of_ble_eq_true rfl) rfl (gg_kj (fun v146 u145 h => ?_))
      refine gg_lcmp hG dL_law_626 ?_
      refine gg_if_eq (tgt := 1247) hG dL_law_627 (by decide) (fun c147 => ?_) (fun c147 => ?_)
      · replace h := h.1 c147
        exact m_L_law_c1247 hG h hk18
      · replace h := h.2 c147
        refine gg_iconst (v := 0) hG dL_law_630 (by decide) ?_
        exact gg_iret hG dL_law_631 rfl (gg_nb (Or.inl rfl)).1 ⟨_, rfl, h⟩
    by_cases c148 : v3 = 16
    · refine gg_tabIn (off := 599) (tgt := 632) hG dL_law_33 (by rw [c148]; decide) (by rw [c148]; decide) (by rw [c148]; decide) (by decide) ?_
      replace h := h.2.2.2.2.2.2.2.2.2.2.2.2.2.2.2.2.1 c148
      refine gg_aload_n hG dL_law_632 rfl rfl ?_
      refine gg_aload_n hG dL_law_633 rfl rfl ?_
      refine gg_iload_n hG dL_law_634 rfl rfl ?_
      refine gg_iconst (v := 1) hG dL_law_635 (by decide) ?_
      refine gg_iadd hG dL_law_636 ?_
      obtain ⟨h149, h⟩ := h
      refine gg_sld (j := (a3 + 1).toNatClampNeg) hG dL_law_637 rfl h149 rfl ?_
      refine gg_aload_n hG dL_law_638 rfl rfl ?_
      refine gg_iload_n hG dL_law_639 rfl rfl ?_
      refine gg_iconst (v := 2) hG dL_law_640 (by decide) ?_
      refine gg_iadd hG dL_law_641 ?_
      obtain ⟨h150, h⟩ := h
      refine gg_sld (j := (a3 + 2).toNatClampNeg) hG dL_law_642 rfl h150 rfl ?_
      refine gg_xv (As := [.int (xs ((a3 + 1).toNatClampNeg)), .int (xs ((a3 + 2).toNatClampNeg))]) (st := []) hG dL_law_643 ml_RL_82 Y_X10_best YV_X10_best (by decide) ⟨_, rfl, rfl⟩ (mt_X10_best h) rfl (by decide) (Nat.le_of_ble_eq_true rfl) rfl (gg_kj (fun v152 u151 h => ?_))
      refine gg_aload_n hG dL_law_646 rfl rfl ?_
      refine gg_aload_n hG dL_law_647 rfl rfl ?_
      refine gg_iload_n hG dL_law_648 rfl rfl ?_
      refine gg_iconst (v := 1) hG dL_law_649 (by decide) ?_
      refine gg_iadd hG dL_law_650 ?_
      obtain ⟨h153, h⟩ := h
      refine gg_sld (j := (a3 + 1).toNatClampNeg) hG dL_law_651 rfl h153 rfl ?_
      refine gg_aload_n hG dL_law_652 rfl rfl ?_
      refine gg_iload_n hG dL_law_653 rfl rfl ?_
      refine gg_iconst (v := 2) hG dL_law_654 (by decide) ?_
      refine gg_iadd hG dL_law_655 ?_
      obtain ⟨h154, h⟩ := h
      refine gg_sld (j := (a3 + 2).toNatClampNeg) hG dL_law_656 rfl h154 rfl ?_
      refine gg_xv (As := [.int (xs ((a3 + 1).toNatClampNeg)), .int (xs ((a3 + 2).toNatClampNeg))]) (st := [.long v152]) hG dL_law_657 ml_RL_85 Y_X11_best YV_X11_best (by decide) ⟨_, rfl, rfl⟩ (mt_X11_best h) rfl (by decide) (Nat.le_of_ble_eq_true rfl) rfl (gg_kj (fun v156 u155 h => ?_))
      refine gg_lcmp hG dL_law_660 ?_
      refine gg_if_eq (tgt := 1247) hG dL_law_661 (by decide) (fun c157 => ?_) (fun c157 => ?_)
      · replace h := h.1 c157
        exact m_L_law_c1247 hG h hk18
      · replace h := h.2 c157
        refine gg_iconst (v := 0) hG dL_law_664 (by decide) ?_
        exact gg_iret hG dL_law_665 rfl (gg_nb (Or.inl rfl)).1 ⟨_, rfl, h⟩
    by_cases c158 : v3 = 17
    · refine gg_tabIn (off := 633) (tgt := 666) hG dL_law_33 (by rw [c158]; decide) (by rw [c158]; decide) (by rw [c158]; decide) (by decide) ?_
      replace h := h.2.2.2.2.2.2.2.2.2.2.2.2.2.2.2.2.2.1 c158
      refine gg_aload_n hG dL_law_666 rfl rfl ?_
      refine gg_aload_n hG dL_law_667 rfl rfl ?_
      refine gg_iload_n hG dL_law_668 rfl rfl ?_
      refine gg_iconst (v := 1) hG dL_law_669 (by decide) ?_
      refine gg_iadd hG dL_law_670 ?_
      obtain ⟨h159, h⟩ := h
      refine gg_sld (j := (a3 + 1).toNatClampNeg) hG dL_law_671 rfl h159 rfl ?_
      refine gg_aload_n hG dL_law_672 rfl rfl ?_
      refine gg_iload_n hG dL_law_673 rfl rfl ?_
      refine gg_iconst (v := 2) hG dL_law_674 (by decide) ?_
      refine gg_iadd hG dL_law_675 ?_
      obtain ⟨h160, h⟩ := h
      refine gg_sld (j := (a3 + 2).toNatClampNeg) hG dL_law_676 rfl h160 rfl ?_
      refine gg_xv (As := [.int (xs ((a3 + 1).toNatClampNeg)), .int (xs ((a3 + 2).toNatClampNeg))]) (st := []) hG dL_law_677 ml_RL_86 Y_X10_habit YV_X10_habit (by decide) ⟨_, rfl, rfl⟩ (mt_X10_habit h) rfl (by decide) (Nat.le_of_ble_eq_true rfl) rfl (gg_kj (fun v162 u161 h => ?_))
      refine gg_aload_n hG dL_law_680 rfl rfl ?_
      refine gg_aload_n hG dL_law_681 rfl rfl ?_
      refine gg_iload_n hG dL_law_682 rfl rfl ?_
      refine gg_iconst (v := 1) hG dL_law_683 (by decide) ?_
      refine gg_iadd hG dL_law_684 ?_
      obtain ⟨h163, h⟩ := h
      refine gg_sld (j := (a3 + 1).toNatClampNeg) hG dL_law_685 rfl h163 rfl ?_
      refine gg_aload_n hG dL_law_686 rfl rfl ?_
      refine gg_iload_n hG dL_law_687 rfl rfl ?_
      refine gg_iconst (v := 2) hG dL_law_688 (by decide) ?_
      refine gg_iadd hG dL_law_689 ?_
      obtain ⟨h164, h⟩ := h
      refine gg_sld (j := (a3 + 2).toNatClampNeg) hG dL_law_690 rfl h164 rfl ?_
      refine gg_xv (As := [.int (xs ((a3 + 1).toNatClampNeg)), .int (xs ((a3 + 2).toNatClampNeg))]) (st := [.long v162]) hG dL_law_691 ml_RL_89 Y_X11_habit YV_X11_habit (by decide) ⟨_, rfl, rfl⟩ (mt_X11_habit h) rfl (by decide) (Nat.le_of_ble_eq_true rfl) rfl (gg_kj (fun v166 u165 h => ?_))
      refine gg_lcmp hG dL_law_694 ?_
      refine gg_if_eq (tgt := 1247) hG dL_law_695 (by decide) (fun c167 => ?_) (fun c167 => ?_)
      · replace h := h.1 c167
        exact m_L_law_c1247 hG h hk18
      · replace h := h.2 c167
        refine gg_iconst (v := 0) hG dL_law_698 (by decide) ?_
        exact gg_iret hG dL_law_699 rfl (gg_nb (Or.inl rfl)).1 ⟨_, rfl, h⟩
    by_cases c168 : v3 = 18
    · refine gg_tabIn (off := 667) (tgt := 700) hG dL_law_33 (by rw [c168]; decide) (by rw [c168]; decide) (by rw [c168]; decide) (by decide) ?_
      replace h := h.2.2.2.2.2.2.2.2.2.2.2.2.2.2.2.2.2.2.1 c168
      refine gg_aload_n hG dL_law_700 rfl rfl ?_
      refine gg_aload_n hG dL_law_701 rfl rfl ?_
      refine gg_iload_n hG dL_law_702 rfl rfl ?_
      refine gg_iconst (v := 1) hG dL_law_703 (by decide) ?_
      refine gg_iadd hG dL_law_704 ?_
      obtain ⟨h169, h⟩ := h
      refine gg_sld (j := (a3 + 1).toNatClampNeg) hG dL_law_705 rfl h169 rfl ?_
      refine gg_xv (As := [.int (xs ((a3 + 1).toNatClampNeg))]) (st := []) hG dL_law_706 ml_RL_90 Y_X10_has YV_X10_has (by decide) ⟨_, rfl, rfl⟩ (mt_X10_has h) rfl (by decide) (Nat.le_of_ble_eq_true rfl) rfl (gg_ki (fun v171 u170 h => ?_))
      refine gg_aload_n hG dL_law_709 rfl rfl ?_
      refine gg_aload_n hG dL_law_710 rfl rfl ?_
      refine gg_iload_n hG dL_law_711 rfl rfl ?_
      refine gg_iconst (v := 1) hG dL_law_712 (by decide) ?_
      refine gg_iadd hG dL_law_713 ?_
      obtain ⟨h172, h⟩ := h
      refine gg_sld (j := (a3 + 1).toNatClampNeg) hG dL_law_714 rfl h172 rfl ?_
      refine gg_xv (As := [.int (xs ((a3 + 1).toNatClampNeg))]) (st := [.int v171]) hG dL_law_715 ml_RL_93 Y_X11_has YV_X11_has (by decide) ⟨_, rfl, rfl⟩ (mt_X11_has h) rfl (by decide) (Nat.le_of_ble_eq_true rfl) rfl (gg_ki (fun v174 u173 h => ?_))
      refine gg_ic_eq (tgt := 1247) hG dL_law_718 (by decide) (fun c175 => ?_) (fun c175 => ?_)
      · replace h := h.1 c175
        exact m_L_law_c1247 hG h hk18
      · replace h := h.2 c175
        refine gg_iconst (v := 0) hG dL_law_721 (by decide) ?_
        exact gg_iret hG dL_law_722 rfl (gg_nb (Or.inl rfl)).1 ⟨_, rfl, h⟩
    by_cases c176 : v3 = 19
    · refine gg_tabIn (off := 690) (tgt := 723) hG dL_law_33 (by rw [c176]; decide) (by rw [c176]; decide) (by rw [c176]; decide) (by decide) ?_
      replace h := h.2.2.2.2.2.2.2.2.2.2.2.2.2.2.2.2.2.2.2.1 c176
      refine gg_aload_n hG dL_law_723 rfl rfl ?_
      refine gg_aload_n hG dL_law_724 rfl rfl ?_
      refine gg_iload_n hG dL_law_725 rfl rfl ?_
      refine gg_iconst (v := 1) hG dL_law_726 (by decide) ?_
      refine gg_iadd hG dL_law_727 ?_
      obtain ⟨h177, h⟩ := h
      refine gg_sld (j := (a3 + 1).toNatClampNeg) hG dL_law_728 rfl h177 rfl ?_
      refine gg_xv (As := [.int (xs ((a3 + 1).toNatClampNeg))]) (st := []) hG dL_law_729 ml_RL_94 Y_X10_work YV_X10_work (by decide) ⟨_, rfl, rfl⟩ (mt_X10_work h) rfl (by decide) (Nat.le_of_ble_eq_true rfl) rfl (gg_kj (fun v179 u178 h => ?_))
      refine gg_aload_n hG dL_law_732 rfl rfl ?_
      refine gg_aload_n hG dL_law_733 rfl rfl ?_
      refine gg_iload_n hG dL_law_734 rfl rfl ?_
      refine gg_iconst (v := 1) hG dL_law_735 (by decide) ?_
      refine gg_iadd hG dL_law_736 ?_
      obtain ⟨h180, h⟩ := h
      refine gg_sld (j := (a3 + 1).toNatClampNeg) hG dL_law_737 rfl h180 rfl ?_
      refine gg_xv (As := [.int (xs ((a3 + 1).toNatClampNeg))]) (st := [.long v179]) hG dL_law_738 ml_RL_98 Y_X11_work YV_X11_work (by decide) ⟨_, rfl, rfl⟩ (mt_X11_work h) rfl (by decide) (Nat.le_of_ble_eq_true rfl) rfl (gg_kj (fun v182 u181 h => ?_))
      refine gg_lcmp hG dL_law_741 ?_
      refine gg_if_eq (tgt := 1247) hG dL_law_742 (by decide) (fun c183 => ?_) (fun c183 => ?_)
      · replace h := h.1 c183
        exact m_L_law_c1247 hG h hk18
      · replace h := h.2 c183
        refine gg_iconst (v := 0) hG dL_law_745 (by decide) ?_
        exact gg_iret hG dL_law_746 rfl (gg_nb (Or.inl rfl)).1 ⟨_, rfl, h⟩
    by_cases c184 : v3 = 20
    · refine gg_tabIn (off := 714) (tgt := 747) hG dL_law_33 (by rw [c184]; decide) (by rw [c184]; decide) (by rw [c184]; decide) (by decide) ?_
      replace h := h.2.2.2.2.2.2.2.2.2.2.2.2.2.2.2.2.2.2.2.2.1 c184
      refine gg_aload_n hG dL_law_747 rfl rfl ?_
      refine gg_aload_n hG dL_law_748 rfl rfl ?_
      refine gg_iload_n hG dL_law_749 rfl rfl ?_
      refine gg_iconst (v := 1) hG dL_law_750 (by decide) ?_
      refine gg_iadd hG dL_law_751 ?_
      obtain ⟨h185, h⟩ := h
      refine gg_sld (j := (a3 + 1).toNatClampNeg) hG dL_law_752 rfl h185 rfl ?_
      refine gg_aload_n hG dL_law_753 rfl rfl ?_
      refine gg_iload_n hG dL_law_754 rfl rfl ?_
      refine gg_iconst (v := 2) hG dL_law_755 (by decide) ?_
      refine gg_iadd hG dL_law_756 ?_
      obtain ⟨h186, h⟩ := h
      refine gg_sld (j := (a3 + 2).toNatClampNeg) hG dL_law_757 rfl h186 rfl ?_
      refine gg_xv (As := [.int (xs ((a3 + 1).toNatClampNeg)), .int (xs ((a3 + 2).toNatClampNeg))]) (st := []) hG dL_law_758 ml_RL_99 Y_X10_drowned YV_X10_drowned (by decide) ⟨_, rfl, rfl⟩ (mt_X10_drowned h) rfl (by decide) (Nat.le_of_ble_eq_true rfl) rfl (gg_ki (fun v188 u187 h => ?_))
      refine gg_aload_n hG dL_law_761 rfl rfl ?_
      refine gg_aload_n hG dL_law_762 rfl rfl ?_
      refine gg_iload_n hG dL_law_763 rfl rfl ?_
      refine gg_iconst (v := 1) hG dL_law_764 (by decide) ?_
      refine gg_iadd hG dL_law_765 ?_
      obtain ⟨h189, h⟩ := h
      refine gg_sld (j := (a3 + 1).toNatClampNeg) hG dL_law_766 rfl h189 rfl ?_
      refine gg_aload_n hG dL_law_767 rfl rfl ?_
      refine gg_iload_n hG dL_law_768 rfl rfl ?_
      refine gg_iconst (v := 2) hG dL_law_769 (by decide) ?_
      refine gg_iadd hG dL_law_770 ?_
      obtain ⟨h190, h⟩ := h
      refine gg_sld (j := (a3 + 2).toNatClampNeg) hG dL_law_771 rfl h190 rfl ?_
      refine gg_xv (As := [.int (xs ((a3 + 1).toNatClampNeg)), .int (xs ((a3 + 2).toNatClampNeg))]) (st := [.int v188]) hG dL_law_772 ml_RL_102 Y_X11_drowned YV_X11_drowned (by decide) ⟨_, rfl, rfl⟩ (mt_X11_drowned h) rfl (by decide) (Nat.le_of_ble_eq_true rfl) rfl (gg_ki (fun v192 u191 h => ?_))
      refine gg_ic_eq (tgt := 1247) hG dL_law_775 (by decide) (fun c193 => ?_) (fun c193 => ?_)
      · replace h := h.1 c193
        exact m_L_law_c1247 hG h hk18
      · replace h := h.2 c193
        refine gg_iconst (v := 0) hG dL_law_778 (by decide) ?_
        exact gg_iret hG dL_law_779 rfl (gg_nb (Or.inl rfl)).1 ⟨_, rfl, h⟩
    by_cases c194 : v3 = 21
    · refine gg_tabIn (off := 747) (tgt := 780) hG dL_law_33 (by rw [c194]; decide) (by rw [c194]; decide) (by rw [c194]; decide) (by decide) ?_
      replace h := h.2.2.2.2.2.2.2.2.2.2.2.2.2.2.2.2.2.2.2.2.2.1 c194
      refine gg_aload_n hG dL_law_780 rfl rfl ?_
      refine gg_aload_n hG dL_law_781 rfl rfl ?_
      refine gg_iload_n hG dL_law_782 rfl rfl ?_
      refine gg_iconst (v := 1) hG dL_law_783 (by decide) ?_
      refine gg_iadd hG dL_law_784 ?_
      obtain ⟨h195, h⟩ := h
      refine gg_sld (j := (a3 + 1).toNatClampNeg) hG dL_law_785 rfl h195 rfl ?_
      refine gg_aload_n hG dL_law_786 rfl rfl ?_
      refine gg_iload_n hG dL_law_787 rfl rfl ?_
      refine gg_iconst (v := 2) hG dL_law_788 (by decide) ?_
      refine gg_iadd hG dL_law_789 ?_
      obtain ⟨h196, h⟩ := h
      refine gg_sld (j := (a3 + 2).toNatClampNeg) hG dL_law_790 rfl h196 rfl ?_
      refine gg_aload_n hG dL_law_791 rfl rfl ?_
      refine gg_iload_n hG dL_law_792 rfl rfl ?_
      refine gg_iconst (v := 3) hG dL_law_793 (by decide) ?_
      refine gg_iadd hG dL_law_794 ?_
      obtain ⟨h197, h⟩ := h
      refine gg_sld (j := (a3 + 3).toNatClampNeg) hG dL_law_795 rfl h197 rfl ?_
      refine gg_xv (As := [.int (xs ((a3 + 1).toNatClampNeg)), .int (xs ((a3 + 2).toNatClampNeg)), .int (xs ((a3 + 3).toNatClampNeg))]) (st := []) hG dL_law_796 ml_RL_103 Y_X10_morning YV_X10_morning (by decide) ⟨_, rfl, rfl⟩ (mt_X10_morning h) rfl (by decide) (Nat.le_of_ble_eq_true rfl) rfl (gg_ki (fun v199 u198 h => ?_))
      refine gg_aload_n hG dL_law_799 rfl rfl ?_
      refine gg_aload_n hG dL_law_800 rfl rfl ?_
      refine gg_iload_n hG dL_law_801 rfl rfl ?_
      refine gg_iconst (v := 1) hG dL_law_802 (by decide) ?_
      refine gg_iadd hG dL_law_803 ?_
      obtain ⟨h200, h⟩ := h
      refine gg_sld (j := (a3 + 1).toNatClampNeg) hG dL_law_804 rfl h200 rfl ?_
      refine gg_aload_n hG dL_law_805 rfl rfl ?_
      refine gg_iload_n hG dL_law_806 rfl rfl ?_
      refine gg_iconst (v := 2) hG dL_law_807 (by decide) ?_
      refine gg_iadd hG dL_law_808 ?_
      obtain ⟨h201, h⟩ := h
      refine gg_sld (j := (a3 + 2).toNatClampNeg) hG dL_law_809 rfl h201 rfl ?_
      refine gg_aload_n hG dL_law_810 rfl rfl ?_
      refine gg_iload_n hG dL_law_811 rfl rfl ?_
      refine gg_iconst (v := 3) hG dL_law_812 (by decide) ?_
      refine gg_iadd hG dL_law_813 ?_
      obtain ⟨h202, h⟩ := h
      refine gg_sld (j := (a3 + 3).toNatClampNeg) hG dL_law_814 rfl h202 rfl ?_
      refine gg_xv (As := [.int (xs ((a3 + 1).toNatClampNeg)), .int (xs ((a3 + 2).toNatClampNeg)), .int (xs ((a3 + 3).toNatClampNeg))]) (st := [.int v199]) hG dL_law_815 ml_RL_107 Y_X11_morning YV_X11_morning (by decide) ⟨_, rfl, rfl⟩ (mt_X11_morning h) rfl (by decide) (Nat.le_of_ble_eq_true rfl) rfl (gg_ki (fun v204 u203 h => ?_))
      refine gg_ic_eq (tgt := 1247) hG dL_law_818 (by decide) (fun c205 => ?_) (fun c205 => ?_)
      · replace h := h.1 c205
        exact m_L_law_c1247 hG h hk18
      · replace h := h.2 c205
        refine gg_iconst (v := 0) hG dL_law_821 (by decide) ?_
        exact gg_iret hG dL_law_822 rfl (gg_nb (Or.inl rfl)).1 ⟨_, rfl, h⟩
    by_cases c206 : v3 = 22
    · refine gg_tabIn (off := 790) (tgt := 823) hG dL_law_33 (by rw [c206]; decide) (by rw [c206]; decide) (by rw [c206]; decide) (by decide) ?_
      replace h := h.2.2.2.2.2.2.2.2.2.2.2.2.2.2.2.2.2.2.2.2.2.2.1 c206
      refine gg_aload_n hG dL_law_823 rfl rfl ?_
      refine gg_aload_n hG dL_law_824 rfl rfl ?_
      refine gg_iload_n hG dL_law_825 rfl rfl ?_
      refine gg_iconst (v := 1) hG dL_law_826 (by decide) ?_
      refine gg_iadd hG dL_law_827 ?_
      obtain ⟨h207, h⟩ := h
      refine gg_sld (j := (a3 + 1).toNatClampNeg) hG dL_law_828 rfl h207 rfl ?_
      refine gg_aload_n hG dL_law_829 rfl rfl ?_
      refine gg_iload_n hG dL_law_830 rfl rfl ?_
      refine gg_iconst (v := 2) hG dL_law_831 (by decide) ?_
      refine gg_iadd hG dL_law_832 ?_
      obtain ⟨h208, h⟩ := h
      refine gg_sld (j := (a3 + 2).toNatClampNeg) hG dL_law_833 rfl h208 rfl ?_
      refine gg_aload_n hG dL_law_834 rfl rfl ?_
      refine gg_iload_n hG dL_law_835 rfl rfl ?_
      refine gg_iconst (v := 3) hG dL_law_836 (by decide) ?_
      refine gg_iadd hG dL_law_837 ?_
      obtain ⟨h209, h⟩ := h
      refine gg_sld (j := (a3 + 3).toNatClampNeg) hG dL_law_838 rfl h209 rfl ?_
      refine gg_aload_n hG dL_law_839 rfl rfl ?_
      refine gg_iload_n hG dL_law_840 rfl rfl ?_
      refine gg_iconst (v := 4) hG dL_law_841 (by decide) ?_
      refine gg_iadd hG dL_law_842 ?_
      obtain ⟨h210, h⟩ := h
      refine gg_sld (j := (a3 + 4).toNatClampNeg) hG dL_law_843 rfl h210 rfl ?_
      refine gg_aload_n hG dL_law_844 rfl rfl ?_
      refine gg_iload_n hG dL_law_845 rfl rfl ?_
      refine gg_iconst (v := 5) hG dL_law_846 (by decide) ?_
      refine gg_iadd hG dL_law_847 ?_
      obtain ⟨h211, h⟩ := h
      refine gg_sld (j := (a3 + 5).toNatClampNeg) hG dL_law_848 rfl h211 rfl ?_
      refine gg_xv (As := [.int (xs ((a3 + 1).toNatClampNeg)), .int (xs ((a3 + 2).toNatClampNeg)), .int (xs ((a3 + 3).toNatClampNeg)), .int (xs ((a3 + 4).toNatClampNeg)), .int (xs ((a3 + 5).toNatClampNeg))]) (st := []) hG dL_law_849 ml_RL_108 Y_X10_says YV_X10_says (by decide) ⟨_, rfl, rfl⟩ (mt_X10_says h) rfl (by decide) (Nat.le_of_ble_eq_true rfl) rfl (gg_ki (fun v213 u212 h => ?_))
      refine gg_aload_n hG dL_law_852 rfl rfl ?_
      refine gg_aload_n hG dL_law_853 rfl rfl ?_
      refine gg_iload_n hG dL_law_854 rfl rfl ?_
      refine gg_iconst (v := 1) hG dL_law_855 (by decide) ?_
      refine gg_iadd hG dL_law_856 ?_
      obtain ⟨h214, h⟩ := h
      refine gg_sld (j := (a3 + 1).toNatClampNeg) hG dL_law_857 rfl h214 rfl ?_
      refine gg_aload_n hG dL_law_858 rfl rfl ?_
      refine gg_iload_n hG dL_law_859 rfl rfl ?_
      refine gg_iconst (v := 2) hG dL_law_860 (by decide) ?_
      refine gg_iadd hG dL_law_861 ?_
      obtain ⟨h215, h⟩ := h
      refine gg_sld (j := (a3 + 2).toNatClampNeg) hG dL_law_862 rfl h215 rfl ?_
      refine gg_aload_n hG dL_law_863 rfl rfl ?_
      refine gg_iload_n hG dL_law_864 rfl rfl ?_
      refine gg_iconst (v := 3) hG dL_law_865 (by decide) ?_
      refine gg_iadd hG dL_law_866 ?_
      obtain ⟨h216, h⟩ := h
      refine gg_sld (j := (a3 + 3).toNatClampNeg) hG dL_law_867 rfl h216 rfl ?_
      refine gg_aload_n hG dL_law_868 rfl rfl ?_
      refine gg_iload_n hG dL_law_869 rfl rfl ?_
      refine gg_iconst (v := 4) hG dL_law_870 (by decide) ?_
      refine gg_iadd hG dL_law_871 ?_
      obtain ⟨h217, h⟩ := h
      refine gg_sld (j := (a3 + 4).toNatClampNeg) hG dL_law_872 rfl h217 rfl ?_
      refine gg_aload_n hG dL_law_873 rfl rfl ?_
      refine gg_iload_n hG dL_law_874 rfl rfl ?_
      refine gg_iconst (v := 5) hG dL_law_875 (by decide) ?_
      refine gg_iadd hG dL_law_876 ?_
      obtain ⟨h218, h⟩ := h
      refine gg_sld (j := (a3 + 5).toNatClampNeg) hG dL_law_877 rfl h218 rfl ?_
      refine gg_xv (As := [.int (xs ((a3 + 1).toNatClampNeg)), .int (xs ((a3 + 2).toNatClampNeg)), .int (xs ((a3 + 3).toNatClampNeg)), .int (xs ((a3 + 4).toNatClampNeg)), .int (xs ((a3 + 5).toNatClampNeg))]) (st := [.int v213]) hG dL_law_878 ml_RL_112 Y_X11_says YV_X11_says (by decide) ⟨_, rfl, rfl⟩ (mt_X11_says h) rfl (by decide) (Nat.le_of_ble_eq_true rfl) rfl (gg_ki (fun v220 u219 h => ?_))
      refine gg_ic_eq (tgt := 1247) hG dL_law_881 (by decide) (fun c221 => ?_) (fun c221 => ?_)
      · replace h := h.1 c221
        exact m_L_law_c1247 hG h hk18
      · replace h := h.2 c221
        refine gg_iconst (v := 0) hG dL_law_884 (by decide) ?_
        exact gg_iret hG dL_law_885 rfl (gg_nb (Or.inl rfl)).1 ⟨_, rfl, h⟩
    by_cases c222 : v3 = 23
    · refine gg_tabIn (off := 853) (tgt := 886) hG dL_law_33 (by rw [c222]; decide) (by rw [c222]; decide) (by rw [c222]; decide) (by decide) ?_
      replace h := h.2.2.2.2.2.2.2.2.2.2.2.2.2.2.2.2.2.2.2.2.2.2.2.1 c222
      refine gg_aload_n hG dL_law_886 rfl rfl ?_
      refine gg_aload_n hG dL_law_887 rfl rfl ?_
      refine gg_iload_n hG dL_law_888 rfl rfl ?_
      refine gg_iconst (v := 1) hG dL_law_889 (by decide) ?_
      refine gg_iadd hG dL_law_890 ?_
      obtain ⟨h223, h⟩ := h
      refine gg_sld (j := (a3 + 1).toNatClampNeg) hG dL_law_891 rfl h223 rfl ?_
      refine gg_aload_n hG dL_law_892 rfl rfl ?_
      refine gg_iload_n hG dL_law_893 rfl rfl ?_
      refine gg_iconst (v := 2) hG dL_law_894 (by decide) ?_
      refine gg_iadd hG dL_law_895 ?_
      obtain ⟨h224, h⟩ := h
      refine gg_sld (j := (a3 + 2).toNatClampNeg) hG dL_law_896 rfl h224 rfl ?_
      refine gg_aload_n hG dL_law_897 rfl rfl ?_
      refine gg_iload_n hG dL_law_898 rfl rfl ?_
      refine gg_iconst (v := 3) hG dL_law_899 (by decide) ?_
      refine gg_iadd hG dL_law_900 ?_
      obtain ⟨h225, h⟩ := h
      refine gg_sld (j := (a3 + 3).toNatClampNeg) hG dL_law_901 rfl h225 rfl ?_
      refine gg_xv (As := [.int (xs ((a3 + 1).toNatClampNeg)), .int (xs ((a3 + 2).toNatClampNeg)), .int (xs ((a3 + 3).toNatClampNeg))]) (st := []) hG dL_law_902 ml_RL_113 Y_X10_misses YV_X10_misses (by decide) ⟨_, rfl, rfl⟩ (mt_X10_misses h) rfl (by decide) (Nat.le_of_ble_eq_true rfl) rfl (gg_ki (fun v227 u226 h => ?_))
      refine gg_aload_n hG dL_law_905 rfl rfl ?_
      refine gg_aload_n hG dL_law_906 rfl rfl ?_
      refine gg_iload_n hG dL_law_907 rfl rfl ?_
      refine gg_iconst (v := 1) hG dL_law_908 (by decide) ?_
      refine gg_iadd hG dL_law_909 ?_
      obtain ⟨h228, h⟩ := h
      refine gg_sld (j := (a3 + 1).toNatClampNeg) hG dL_law_910 rfl h228 rfl ?_
      refine gg_aload_n hG dL_law_911 rfl rfl ?_
      refine gg_iload_n hG dL_law_912 rfl rfl ?_
      refine gg_iconst (v := 2) hG dL_law_913 (by decide) ?_
      refine gg_iadd hG dL_law_914 ?_
      obtain ⟨h229, h⟩ := h
      refine gg_sld (j := (a3 + 2).toNatClampNeg) hG dL_law_915 rfl h229 rfl ?_
      refine gg_aload_n hG dL_law_916 rfl rfl ?_
      refine gg_iload_n hG dL_law_917 rfl rfl ?_
      refine gg_iconst (v := 3) hG dL_law_918 (by decide) ?_
      refine gg_iadd hG dL_law_919 ?_
      obtain ⟨h230, h⟩ := h
      refine gg_sld (j := (a3 + 3).toNatClampNeg) hG dL_law_920 rfl h230 rfl ?_
      refine gg_xv (As := [.int (xs ((a3 + 1).toNatClampNeg)), .int (xs ((a3 + 2).toNatClampNeg)), .int (xs ((a3 + 3).toNatClampNeg))]) (st := [.int v227]) hG dL_law_921 ml_RL_116 Y_X11_misses YV_X11_misses (by decide) ⟨_, rfl, rfl⟩ (mt_X11_misses h) rfl (by decide) (Nat.le_of_ble_eq_true rfl) rfl (gg_ki (fun v232 u231 h => ?_))
      refine gg_ic_eq (tgt := 1247) hG dL_law_924 (by decide) (fun c233 => ?_) (fun c233 => ?_)
      · replace h := h.1 c233
        exact m_L_law_c1247 hG h hk18
      · replace h := h.2 c233
        refine gg_iconst (v := 0) hG dL_law_927 (by decide) ?_
        exact gg_iret hG dL_law_928 rfl (gg_nb (Or.inl rfl)).1 ⟨_, rfl, h⟩
    by_cases c234 : v3 = 24
    · refine gg_tabIn (off := 896) (tgt := 929) hG dL_law_33 (by rw [c234]; decide) (by rw [c234]; decide) (by rw [c234]; decide) (by decide) ?_
      replace h := h.2.2.2.2.2.2.2.2.2.2.2.2.2.2.2.2.2.2.2.2.2.2.2.2.1 c234
      refine gg_aload_n hG dL_law_929 rfl rfl ?_
      refine gg_aload_n hG dL_law_930 rfl rfl ?_
      refine gg_iload_n hG dL_law_931 rfl rfl ?_
      refine gg_iconst (v := 1) hG dL_law_932 (by decide) ?_
      refine gg_iadd hG dL_law_933 ?_
      obtain ⟨h235, h⟩ := h
      refine gg_sld (j := (a3 + 1).toNatClampNeg) hG dL_law_934 rfl h235 rfl ?_
      refine gg_xv (As := [.int (xs ((a3 + 1).toNatClampNeg))]) (st := []) hG dL_law_935 ml_RL_117 Y_X10_fits YV_X10_fits (by decide) ⟨_, rfl, rfl⟩ (mt_X10_fits h) rfl (by decide) (Nat.le_of_ble_eq_true rfl) rfl (gg_ki (fun v237 u236 h => ?_))
      refine gg_aload_n hG dL_law_938 rfl rfl ?_
      refine gg_aload_n hG dL_law_939 rfl rfl ?_
      refine gg_iload_n hG dL_law_940 rfl rfl ?_
      refine gg_iconst (v := 1) hG dL_law_941 (by decide) ?_
      refine gg_iadd hG dL_law_942 ?_
      obtain ⟨h238, h⟩ := h
      refine gg_sld (j := (a3 + 1).toNatClampNeg) hG dL_law_943 rfl h238 rfl ?_
      refine gg_xv (As := [.int (xs ((a3 + 1).toNatClampNeg))]) (st := [.int v237]) hG dL_law_944 ml_RL_120 Y_X11_fits YV_X11_fits (by decide) ⟨_, rfl, rfl⟩ (mt_X11_fits h) rfl (by decide) (Nat.le_of_ble_eq_true rfl) rfl (gg_ki (fun v240 u239 h => ?_))
      refine gg_ic_eq (tgt := 1247) hG dL_law_947 (by decide) (fun c241 => ?_) (fun c241 => ?_)
      · replace h := h.1 c241
        exact m_L_law_c1247 hG h hk18
      · replace h := h.2 c241
        refine gg_iconst (v := 0) hG dL_law_950 (by decide) ?_
        exact gg_iret hG dL_law_951 rfl (gg_nb (Or.inl rfl)).1 ⟨_, rfl, h⟩
    by_cases c242 : v3 = 25
    · refine gg_tabIn (off := 919) (tgt := 952) hG dL_law_33 (by rw [c242]; decide) (by rw [c242]; decide) (by rw [c242]; decide) (by decide) ?_
      replace h := h.2.2.2.2.2.2.2.2.2.2.2.2.2.2.2.2.2.2.2.2.2.2.2.2.2.1 c242
      refine gg_aload_n hG dL_law_952 rfl rfl ?_
      refine gg_aload_n hG dL_law_953 rfl rfl ?_
      refine gg_iload_n hG dL_law_954 rfl rfl ?_
      refine gg_iconst (v := 1) hG dL_law_955 (by decide) ?_
      refine gg_iadd hG dL_law_956 ?_
      obtain ⟨h243, h⟩ := h
      refine gg_sld (j := (a3 + 1).toNatClampNeg) hG dL_law_957 rfl h243 rfl ?_
      refine gg_aload_n hG dL_law_958 rfl rfl ?_
      refine gg_iload_n hG dL_law_959 rfl rfl ?_
      refine gg_iconst (v := 2) hG dL_law_960 (by decide) ?_
      refine gg_iadd hG dL_law_961 ?_
      obtain ⟨h244, h⟩ := h
      refine gg_sld (j := (a3 + 2).toNatClampNeg) hG dL_law_962 rfl h244 rfl ?_
      refine gg_aload_n hG dL_law_963 rfl rfl ?_
      refine gg_iload_n hG dL_law_964 rfl rfl ?_
      refine gg_iconst (v := 3) hG dL_law_965 (by decide) ?_
      refine gg_iadd hG dL_law_966 ?_
      obtain ⟨h245, h⟩ := h
      refine gg_sld (j := (a3 + 3).toNatClampNeg) hG dL_law_967 rfl h245 rfl ?_
      refine gg_xv (As := [.int (xs ((a3 + 1).toNatClampNeg)), .int (xs ((a3 + 2).toNatClampNeg)), .int (xs ((a3 + 3).toNatClampNeg))]) (st := []) hG dL_law_968 ml_RL_121 Y_X10_sheet YV_X10_sheet (by decide) ⟨_, rfl, rfl⟩ (mt_X10_sheet h) rfl (by decide) (Nat.le_of_ble_eq_true rfl) rfl (gg_ki (fun v247 u246 h => ?_))
      refine gg_aload_n hG dL_law_971 rfl rfl ?_
      refine gg_aload_n hG dL_law_972 rfl rfl ?_
      refine gg_iload_n hG dL_law_973 rfl rfl ?_
      refine gg_iconst (v := 1) hG dL_law_974 (by decide) ?_
      refine gg_iadd hG dL_law_975 ?_
      obtain ⟨h248, h⟩ := h
      refine gg_sld (j := (a3 + 1).toNatClampNeg) hG dL_law_976 rfl h248 rfl ?_
      refine gg_aload_n hG dL_law_977 rfl rfl ?_
      refine gg_iload_n hG dL_law_978 rfl rfl ?_
      refine gg_iconst (v := 2) hG dL_law_979 (by decide) ?_
      refine gg_iadd hG dL_law_980 ?_
      obtain ⟨h249, h⟩ := h
      refine gg_sld (j := (a3 + 2).toNatClampNeg) hG dL_law_981 rfl h249 rfl ?_
      refine gg_aload_n hG dL_law_982 rfl rfl ?_
      refine gg_iload_n hG dL_law_983 rfl rfl ?_
      refine gg_iconst (v := 3) hG dL_law_984 (by decide) ?_
      refine gg_iadd hG dL_law_985 ?_
      obtain ⟨h250, h⟩ := h
      refine gg_sld (j := (a3 + 3).toNatClampNeg) hG dL_law_986 rfl h250 rfl ?_
      refine gg_xv (As := [.int (xs ((a3 + 1).toNatClampNeg)), .int (xs ((a3 + 2).toNatClampNeg)), .int (xs ((a3 + 3).toNatClampNeg))]) (st := [.int v247]) hG dL_law_987 ml_RL_124 Y_X11_sheet YV_X11_sheet (by decide) ⟨_, rfl, rfl⟩ (mt_X11_sheet h) rfl (by decide) (Nat.le_of_ble_eq_true rfl) rfl (gg_ki (fun v252 u251 h => ?_))
      refine gg_ic_eq (tgt := 1247) hG dL_law_990 (by decide) (fun c253 => ?_) (fun c253 => ?_)
      · replace h := h.1 c253
        exact m_L_law_c1247 hG h hk18
      · replace h := h.2 c253
        refine gg_iconst (v := 0) hG dL_law_993 (by decide) ?_
        exact gg_iret hG dL_law_994 rfl (gg_nb (Or.inl rfl)).1 ⟨_, rfl, h⟩
    by_cases c254 : v3 = 26
    · refine gg_tabIn (off := 962) (tgt := 995) hG dL_law_33 (by rw [c254]; decide) (by rw [c254]; decide) (by rw [c254]; decide) (by decide) ?_
      replace h := h.2.2.2.2.2.2.2.2.2.2.2.2.2.2.2.2.2.2.2.2.2.2.2.2.2.2.1 c254
      refine gg_aload_n hG dL_law_995 rfl rfl ?_
      refine gg_aload_n hG dL_law_996 rfl rfl ?_
      refine gg_iload_n hG dL_law_997 rfl rfl ?_
      refine gg_iconst (v := 1) hG dL_law_998 (by decide) ?_
      refine gg_iadd hG dL_law_999 ?_
      obtain ⟨h255, h⟩ := h
      refine gg_sld (j := (a3 + 1).toNatClampNeg) hG dL_law_1000 rfl h255 rfl ?_
      refine gg_xv (As := [.int (xs ((a3 + 1).toNatClampNeg))]) (st := []) hG dL_law_1001 ml_RL_125 Y_X10_lose YV_X10_lose (by decide) ⟨_, rfl, rfl⟩ (mt_X10_lose h) rfl (by decide) (Nat.le_of_ble_eq_true rfl) rfl (gg_ki (fun v257 u256 h => ?_))
      refine gg_aload_n hG dL_law_1004 rfl rfl ?_
      refine gg_aload_n hG dL_law_1005 rfl rfl ?_
      refine gg_iload_n hG dL_law_1006 rfl rfl ?_
      refine gg_iconst (v := 1) hG dL_law_1007 (by decide) ?_
      refine gg_iadd hG dL_law_1008 ?_
      obtain ⟨h258, h⟩ := h
      refine gg_sld (j := (a3 + 1).toNatClampNeg) hG dL_law_1009 rfl h258 rfl ?_
      refine gg_xv (As := [.int (xs ((a3 + 1).toNatClampNeg))]) (st := [.int v257]) hG dL_law_1010 ml_RL_128 Y_X11_lose YV_X11_lose (by decide) ⟨_, rfl, rfl⟩ (mt_X11_lose h) rfl (by decide) (Nat.le_of_ble_eq_true rfl) rfl (gg_ki (fun v260 u259 h => ?_))
      refine gg_ic_eq (tgt := 1247) hG dL_law_1013 (by decide) (fun c261 => ?_) (fun c261 => ?_)
      · replace h := h.1 c261
        exact m_L_law_c1247 hG h hk18
      · replace h := h.2 c261
        refine gg_iconst (v := 0) hG dL_law_1016 (by decide) ?_
        exact gg_iret hG dL_law_1017 rfl (gg_nb (Or.inl rfl)).1 ⟨_, rfl, h⟩
    by_cases c262 : v3 = 27
    · refine gg_tabIn (off := 985) (tgt := 1018) hG dL_law_33 (by rw [c262]; decide) (by rw [c262]; decide) (by rw [c262]; decide) (by decide) ?_
      replace h := h.2.2.2.2.2.2.2.2.2.2.2.2.2.2.2.2.2.2.2.2.2.2.2.2.2.2.2.1 c262
      refine gg_aload_n hG dL_law_1018 rfl rfl ?_
      refine gg_aload_n hG dL_law_1019 rfl rfl ?_
      refine gg_iload_n hG dL_law_1020 rfl rfl ?_
      refine gg_iconst (v := 1) hG dL_law_1021 (by decide) ?_
      refine gg_iadd hG dL_law_1022 ?_
      obtain ⟨h263, h⟩ := h
      refine gg_sld (j := (a3 + 1).toNatClampNeg) hG dL_law_1023 rfl h263 rfl ?_
      refine gg_aload_n hG dL_law_1024 rfl rfl ?_
      refine gg_iload_n hG dL_law_1025 rfl rfl ?_
      refine gg_iconst (v := 2) hG dL_law_1026 (by decide) ?_
      refine gg_iadd hG dL_law_1027 ?_
      obtain ⟨h264, h⟩ := h
      refine gg_sld (j := (a3 + 2).toNatClampNeg) hG dL_law_1028 rfl h264 rfl ?_
      refine gg_aload_n hG dL_law_1029 rfl rfl ?_
      refine gg_iload_n hG dL_law_1030 rfl rfl ?_
      refine gg_iconst (v := 3) hG dL_law_1031 (by decide) ?_
      refine gg_iadd hG dL_law_1032 ?_
      obtain ⟨h265, h⟩ := h
      refine gg_sld (j := (a3 + 3).toNatClampNeg) hG dL_law_1033 rfl h265 rfl ?_
      refine gg_aload_n hG dL_law_1034 rfl rfl ?_
      refine gg_iload_n hG dL_law_1035 rfl rfl ?_
      refine gg_iconst (v := 4) hG dL_law_1036 (by decide) ?_
      refine gg_iadd hG dL_law_1037 ?_
      obtain ⟨h266, h⟩ := h
      refine gg_sld (j := (a3 + 4).toNatClampNeg) hG dL_law_1038 rfl h266 rfl ?_
      refine gg_xv (As := [.int (xs ((a3 + 1).toNatClampNeg)), .int (xs ((a3 + 2).toNatClampNeg)), .int (xs ((a3 + 3).toNatClampNeg)), .int (xs ((a3 + 4).toNatClampNeg))]) (st := []) hG dL_law_1039 ml_RL_129 Y_X10_put YV_X10_put (by decide) ⟨_, rfl, rfl⟩ (mt_X10_put h) rfl (by decide) (Nat.le_of_ble_eq_true rfl) rfl (gg_ki (fun v268 u267 h => ?_))
      refine gg_aload_n hG dL_law_1042 rfl rfl ?_
      refine gg_aload_n hG dL_law_1043 rfl rfl ?_
      refine gg_iload_n hG dL_law_1044 rfl rfl ?_
      refine gg_iconst (v := 1) hG dL_law_1045 (by decide) ?_
      refine gg_iadd hG dL_law_1046 ?_
      obtain ⟨h269, h⟩ := h
      refine gg_sld (j := (a3 + 1).toNatClampNeg) hG dL_law_1047 rfl h269 rfl ?_
      refine gg_aload_n hG dL_law_1048 rfl rfl ?_
      refine gg_iload_n hG dL_law_1049 rfl rfl ?_
      refine gg_iconst (v := 2) hG dL_law_1050 (by decide) ?_
      refine gg_iadd hG dL_law_1051 ?_
      obtain ⟨h270, h⟩ := h
      refine gg_sld (j := (a3 + 2).toNatClampNeg) hG dL_law_1052 rfl h270 rfl ?_
      refine gg_aload_n hG dL_law_1053 rfl rfl ?_
      refine gg_iload_n hG dL_law_1054 rfl rfl ?_
      refine gg_iconst (v := 3) hG dL_law_1055 (by decide) ?_
      refine gg_iadd hG dL_law_1056 ?_
      obtain ⟨h271, h⟩ := h
      refine gg_sld (j := (a3 + 3).toNatClampNeg) hG dL_law_1057 rfl h271 rfl ?_
      refine gg_aload_n hG dL_law_1058 rfl rfl ?_
      refine gg_iload_n hG dL_law_1059 rfl rfl ?_
      refine gg_iconst (v := 4) hG dL_law_1060 (by decide) ?_
      refine gg_iadd hG dL_law_1061 ?_
      obtain ⟨h272, h⟩ := h
      refine gg_sld (j := (a3 + 4).toNatClampNeg) hG dL_law_1062 rfl h272 rfl ?_
      refine gg_xv (As := [.int (xs ((a3 + 1).toNatClampNeg)), .int (xs ((a3 + 2).toNatClampNeg)), .int (xs ((a3 + 3).toNatClampNeg)), .int (xs ((a3 + 4).toNatClampNeg))]) (st := [.int v268]) hG dL_law_1063 ml_RL_133 Y_X11_put YV_X11_put (by decide) ⟨_, rfl, rfl⟩ (mt_X11_put h) rfl (by decide) (Nat.le_of_ble_eq_true rfl) rfl (gg_ki (fun v274 u273 h => ?_))
      refine gg_ic_eq (tgt := 1247) hG dL_law_1066 (by decide) (fun c275 => ?_) (fun c275 => ?_)
      · replace h := h.1 c275
        exact m_L_law_c1247 hG h hk18
      · replace h := h.2 c275
        refine gg_iconst (v := 0) hG dL_law_1069 (by decide) ?_
        exact gg_iret hG dL_law_1070 rfl (gg_nb (Or.inl rfl)).1 ⟨_, rfl, h⟩
    by_cases c276 : v3 = 28
    · refine gg_tabIn (off := 1038) (tgt := 1071) hG dL_law_33 (by rw [c276]; decide) (by rw [c276]; decide) (by rw [c276]; decide) (by decide) ?_
      replace h := h.2.2.2.2.2.2.2.2.2.2.2.2.2.2.2.2.2.2.2.2.2.2.2.2.2.2.2.2.1 c276
      refine gg_aload_n hG dL_law_1071 rfl rfl ?_
      refine gg_aload_n hG dL_law_1072 rfl rfl ?_
      refine gg_iload_n hG dL_law_1073 rfl rfl ?_
      refine gg_iconst (v := 1) hG dL_law_1074 (by decide) ?_
      refine gg_iadd hG dL_law_1075 ?_
      obtain ⟨h277, h⟩ := h
      refine gg_sld (j := (a3 + 1).toNatClampNeg) hG dL_law_1076 rfl h277 rfl ?_
      refine gg_aload_n hG dL_law_1077 rfl rfl ?_
      refine gg_iload_n hG dL_law_1078 rfl rfl ?_
      refine gg_iconst (v := 2) hG dL_law_1079 (by decide) ?_
      refine gg_iadd hG dL_law_1080 ?_
      obtain ⟨h278, h⟩ := h
      refine gg_sld (j := (a3 + 2).toNatClampNeg) hG dL_law_1081 rfl h278 rfl ?_
      refine gg_aload_n hG dL_law_1082 rfl rfl ?_
      refine gg_iload_n hG dL_law_1083 rfl rfl ?_
      refine gg_iconst (v := 3) hG dL_law_1084 (by decide) ?_
      refine gg_iadd hG dL_law_1085 ?_
      obtain ⟨h279, h⟩ := h
      refine gg_sld (j := (a3 + 3).toNatClampNeg) hG dL_law_1086 rfl h279 rfl ?_
      refine gg_xv (As := [.int (xs ((a3 + 1).toNatClampNeg)), .int (xs ((a3 + 2).toNatClampNeg)), .int (xs ((a3 + 3).toNatClampNeg))]) (st := []) hG dL_law_1087 ml_RL_134 Y_X10_get YV_X10_get (by decide) ⟨_, rfl, rfl⟩ (mt_X10_get h) rfl (by decide) (Nat.le_of_ble_eq_true rfl) rfl (gg_ki (fun v281 u280 h => ?_))
      refine gg_aload_n hG dL_law_1090 rfl rfl ?_
      refine gg_aload_n hG dL_law_1091 rfl rfl ?_
      refine gg_iload_n hG dL_law_1092 rfl rfl ?_
      refine gg_iconst (v := 1) hG dL_law_1093 (by decide) ?_
      refine gg_iadd hG dL_law_1094 ?_
      obtain ⟨h282, h⟩ := h
      refine gg_sld (j := (a3 + 1).toNatClampNeg) hG dL_law_1095 rfl h282 rfl ?_
      refine gg_aload_n hG dL_law_1096 rfl rfl ?_
      refine gg_iload_n hG dL_law_1097 rfl rfl ?_
      refine gg_iconst (v := 2) hG dL_law_1098 (by decide) ?_
      refine gg_iadd hG dL_law_1099 ?_
      obtain ⟨h283, h⟩ := h
      refine gg_sld (j := (a3 + 2).toNatClampNeg) hG dL_law_1100 rfl h283 rfl ?_
      refine gg_aload_n hG dL_law_1101 rfl rfl ?_
      refine gg_iload_n hG dL_law_1102 rfl rfl ?_
      refine gg_iconst (v := 3) hG dL_law_1103 (by decide) ?_
      refine gg_iadd hG dL_law_1104 ?_
      obtain ⟨h284, h⟩ := h
      refine gg_sld (j := (a3 + 3).toNatClampNeg) hG dL_law_1105 rfl h284 rfl ?_
      refine gg_xv (As := [.int (xs ((a3 + 1).toNatClampNeg)), .int (xs ((a3 + 2).toNatClampNeg)), .int (xs ((a3 + 3).toNatClampNeg))]) (st := [.int v281]) hG dL_law_1106 ml_RL_137 Y_X11_get YV_X11_get (by decide) ⟨_, rfl, rfl⟩ (mt_X11_get h) rfl (by decide) (Nat.le_of_ble_eq_true rfl) rfl (gg_ki (fun v286 u285 h => ?_))
      refine gg_ic_eq (tgt := 1247) hG dL_law_1109 (by decide) (fun c287 => ?_) (fun c287 => ?_)
      · replace h := h.1 c287
        exact m_L_law_c1247 hG h hk18
      · replace h := h.2 c287
        refine gg_iconst (v := 0) hG dL_law_1112 (by decide) ?_
        exact gg_iret hG dL_law_1113 rfl (gg_nb (Or.inl rfl)).1 ⟨_, rfl, h⟩
    by_cases c288 : v3 = 29
    · refine gg_tabIn (off := 1081) (tgt := 1114) hG dL_law_33 (by rw [c288]; decide) (by rw [c288]; decide) (by rw [c288]; decide) (by decide) ?_
      replace h := h.2.2.2.2.2.2.2.2.2.2.2.2.2.2.2.2.2.2.2.2.2.2.2.2.2.2.2.2.2.1 c288
      refine gg_aload_n hG dL_law_1114 rfl rfl ?_
      refine gg_aload_n hG dL_law_1115 rfl rfl ?_
      refine gg_iload_n hG dL_law_1116 rfl rfl ?_
      refine gg_iconst (v := 1) hG dL_law_1117 (by decide) ?_
      refine gg_iadd hG dL_law_1118 ?_
      obtain ⟨h289, h⟩ := h
      refine gg_sld (j := (a3 + 1).toNatClampNeg) hG dL_law_1119 rfl h289 rfl ?_
      refine gg_aload_n hG dL_law_1120 rfl rfl ?_
      refine gg_iload_n hG dL_law_1121 rfl rfl ?_
      refine gg_iconst (v := 2) hG dL_law_1122 (by decide) ?_
      refine gg_iadd hG dL_law_1123 ?_
      obtain ⟨h290, h⟩ := h
      refine gg_sld (j := (a3 + 2).toNatClampNeg) hG dL_law_1124 rfl h290 rfl ?_
      refine gg_aload_n hG dL_law_1125 rfl rfl ?_
      refine gg_iload_n hG dL_law_1126 rfl rfl ?_
      refine gg_iconst (v := 3) hG dL_law_1127 (by decide) ?_
      refine gg_iadd hG dL_law_1128 ?_
      obtain ⟨h291, h⟩ := h
      refine gg_sld (j := (a3 + 3).toNatClampNeg) hG dL_law_1129 rfl h291 rfl ?_
      refine gg_aload_n hG dL_law_1130 rfl rfl ?_
      refine gg_iload_n hG dL_law_1131 rfl rfl ?_
      refine gg_iconst (v := 4) hG dL_law_1132 (by decide) ?_
      refine gg_iadd hG dL_law_1133 ?_
      obtain ⟨h292, h⟩ := h
      refine gg_sld (j := (a3 + 4).toNatClampNeg) hG dL_law_1134 rfl h292 rfl ?_
      refine gg_aload_n hG dL_law_1135 rfl rfl ?_
      refine gg_iload_n hG dL_law_1136 rfl rfl ?_
      refine gg_iconst (v := 5) hG dL_law_1137 (by decide) ?_
      refine gg_iadd hG dL_law_1138 ?_
      obtain ⟨h293, h⟩ := h
      refine gg_sld (j := (a3 + 5).toNatClampNeg) hG dL_law_1139 rfl h293 rfl ?_
      refine gg_xv (As := [.int (xs ((a3 + 1).toNatClampNeg)), .int (xs ((a3 + 2).toNatClampNeg)), .int (xs ((a3 + 3).toNatClampNeg)), .int (xs ((a3 + 4).toNatClampNeg)), .int (xs ((a3 + 5).toNatClampNeg))]) (st := []) hG dL_law_1140 ml_RL_138 Y_X10_copy YV_X10_copy (by decide) ⟨_, rfl, rfl⟩ (mt_X10_copy h) rfl (by decide) (Nat.le_of_ble_eq_true rfl) rfl (gg_ki (fun v295 u294 h => ?_))
      refine gg_aload_n hG dL_law_1143 rfl rfl ?_
      refine gg_aload_n hG dL_law_1144 rfl rfl ?_
      refine gg_iload_n hG dL_law_1145 rfl rfl ?_
      refine gg_iconst (v := 1) hG dL_law_1146 (by decide) ?_
      refine gg_iadd hG dL_law_1147 ?_
      obtain ⟨h296, h⟩ := h
      refine gg_sld (j := (a3 + 1).toNatClampNeg) hG dL_law_1148 rfl h296 rfl ?_
      refine gg_aload_n hG dL_law_1149 rfl rfl ?_
      refine gg_iload_n hG dL_law_1150 rfl rfl ?_
      refine gg_iconst (v := 2) hG dL_law_1151 (by decide) ?_
      refine gg_iadd hG dL_law_1152 ?_
      obtain ⟨h297, h⟩ := h
      refine gg_sld (j := (a3 + 2).toNatClampNeg) hG dL_law_1153 rfl h297 rfl ?_
      refine gg_aload_n hG dL_law_1154 rfl rfl ?_
      refine gg_iload_n hG dL_law_1155 rfl rfl ?_
      refine gg_iconst (v := 3) hG dL_law_1156 (by decide) ?_
      refine gg_iadd hG dL_law_1157 ?_
      obtain ⟨h298, h⟩ := h
      refine gg_sld (j := (a3 + 3).toNatClampNeg) hG dL_law_1158 rfl h298 rfl ?_
      refine gg_aload_n hG dL_law_1159 rfl rfl ?_
      refine gg_iload_n hG dL_law_1160 rfl rfl ?_
      refine gg_iconst (v := 4) hG dL_law_1161 (by decide) ?_
      refine gg_iadd hG dL_law_1162 ?_
      obtain ⟨h299, h⟩ := h
      refine gg_sld (j := (a3 + 4).toNatClampNeg) hG dL_law_1163 rfl h299 rfl ?_
      refine gg_aload_n hG dL_law_1164 rfl rfl ?_
      refine gg_iload_n hG dL_law_1165 rfl rfl ?_
      refine gg_iconst (v := 5) hG dL_law_1166 (by decide) ?_
      refine gg_iadd hG dL_law_1167 ?_
      obtain ⟨h300, h⟩ := h
      refine gg_sld (j := (a3 + 5).toNatClampNeg) hG dL_law_1168 rfl h300 rfl ?_
      refine gg_xv (As := [.int (xs ((a3 + 1).toNatClampNeg)), .int (xs ((a3 + 2).toNatClampNeg)), .int (xs ((a3 + 3).toNatClampNeg)), .int (xs ((a3 + 4).toNatClampNeg)), .int (xs ((a3 + 5).toNatClampNeg))]) (st := [.int v295]) hG dL_law_1169 ml_RL_141 Y_X11_copy YV_X11_copy (by decide) ⟨_, rfl, rfl⟩ (mt_X11_copy h) rfl (by decide) (Nat.le_of_ble_eq_true rfl) rfl (gg_ki (fun v302 u301 h => ?_))
      refine gg_ic_eq (tgt := 1247) hG dL_law_1172 (by decide) (fun c303 => ?_) (fun c303 => ?_)
      · replace h := h.1 c303
        exact m_L_law_c1247 hG h hk18
      · replace h := h.2 c303
        refine gg_iconst (v := 0) hG dL_law_1175 (by decide) ?_
        exact gg_iret hG dL_law_1176 rfl (gg_nb (Or.inl rfl)).1 ⟨_, rfl, h⟩
    by_cases c304 : v3 = 30
    · refine gg_tabIn (off := 1144) (tgt := 1177) hG dL_law_33 (by rw [c304]; decide) (by rw [c304]; decide) (by rw [c304]; decide) (by decide) ?_
      replace h := h.2.2.2.2.2.2.2.2.2.2.2.2.2.2.2.2.2.2.2.2.2.2.2.2.2.2.2.2.2.2.1 c304
      refine gg_aload_n hG dL_law_1177 rfl rfl ?_
      refine gg_aload_n hG dL_law_1178 rfl rfl ?_
      refine gg_iload_n hG dL_law_1179 rfl rfl ?_
      refine gg_iconst (v := 1) hG dL_law_1180 (by decide) ?_
      refine gg_iadd hG dL_law_1181 ?_
      obtain ⟨h305, h⟩ := h
      refine gg_sld (j := (a3 + 1).toNatClampNeg) hG dL_law_1182 rfl h305 rfl ?_
      refine gg_aload_n hG dL_law_1183 rfl rfl ?_
      refine gg_iload_n hG dL_law_1184 rfl rfl ?_
      refine gg_iconst (v := 2) hG dL_law_1185 (by decide) ?_
      refine gg_iadd hG dL_law_1186 ?_
      obtain ⟨h306, h⟩ := h
      refine gg_sld (j := (a3 + 2).toNatClampNeg) hG dL_law_1187 rfl h306 rfl ?_
      refine gg_xv (As := [.int (xs ((a3 + 1).toNatClampNeg)), .int (xs ((a3 + 2).toNatClampNeg))]) (st := []) hG dL_law_1188 ml_RL_142 Y_X10_write YV_X10_write (by decide) ⟨_, rfl, rfl⟩ (mt_X10_write h) rfl (by decide) (Nat.le_of_ble_eq_true rfl) rfl (gg_ki (fun v308 u307 h => ?_))
      refine gg_aload_n hG dL_law_1191 rfl rfl ?_
      refine gg_aload_n hG dL_law_1192 rfl rfl ?_
      refine gg_iload_n hG dL_law_1193 rfl rfl ?_
      refine gg_iconst (v := 1) hG dL_law_1194 (by decide) ?_
      refine gg_iadd hG dL_law_1195 ?_
      obtain ⟨h309, h⟩ := h
      refine gg_sld (j := (a3 + 1).toNatClampNeg) hG dL_law_1196 rfl h309 rfl ?_
      refine gg_aload_n hG dL_law_1197 rfl rfl ?_
      refine gg_iload_n hG dL_law_1198 rfl rfl ?_
      refine gg_iconst (v := 2) hG dL_law_1199 (by decide) ?_
      refine gg_iadd hG dL_law_1200 ?_
      obtain ⟨h310, h⟩ := h
      refine gg_sld (j := (a3 + 2).toNatClampNeg) hG dL_law_1201 rfl h310 rfl ?_
      refine gg_xv (As := [.int (xs ((a3 + 1).toNatClampNeg)), .int (xs ((a3 + 2).toNatClampNeg))]) (st := [.int v308]) hG dL_law_1202 ml_RL_145 Y_X11_write YV_X11_write (by decide) ⟨_, rfl, rfl⟩ (mt_X11_write h) rfl (by decide) (Nat.le_of_ble_eq_true rfl) rfl (gg_ki (fun v312 u311 h => ?_))
      refine gg_ic_eq (tgt := 1247) hG dL_law_1205 (by decide) (fun c313 => ?_) (fun c313 => ?_)
      · replace h := h.1 c313
        exact m_L_law_c1247 hG h hk18
      · replace h := h.2 c313
        refine gg_iconst (v := 0) hG dL_law_1208 (by decide) ?_
        exact gg_iret hG dL_law_1209 rfl (gg_nb (Or.inl rfl)).1 ⟨_, rfl, h⟩
    by_cases c314 : v3 = 31
    · refine gg_tabIn (off := 1177) (tgt := 1210) hG dL_law_33 (by rw [c314]; decide) (by rw [c314]; decide) (by rw [c314]; decide) (by decide) ?_
      replace h := h.2.2.2.2.2.2.2.2.2.2.2.2.2.2.2.2.2.2.2.2.2.2.2.2.2.2.2.2.2.2.2.1 c314
      refine gg_aload_n hG dL_law_1210 rfl rfl ?_
      refine gg_aload_n hG dL_law_1211 rfl rfl ?_
      refine gg_iload_n hG dL_law_1212 rfl rfl ?_
      refine gg_iconst (v := 1) hG dL_law_1213 (by decide) ?_
      refine gg_iadd hG dL_law_1214 ?_
      obtain ⟨h315, h⟩ := h
      refine gg_sld (j := (a3 + 1).toNatClampNeg) hG dL_law_1215 rfl h315 rfl ?_
      refine gg_xv (As := [.int (xs ((a3 + 1).toNatClampNeg))]) (st := []) hG dL_law_1216 ml_RL_146 Y_X10_count YV_X10_count (by decide) ⟨_, rfl, rfl⟩ (mt_X10_count h) rfl (by decide) (Nat.le_of_ble_eq_true rfl) rfl (gg_ki (fun v317 u316 h => ?_))
      refine gg_aload_n hG dL_law_1219 rfl rfl ?_
      refine gg_aload_n hG dL_law_1220 rfl rfl ?_
      refine gg_iload_n hG dL_law_1221 rfl rfl ?_
      refine gg_iconst (v := 1) hG dL_law_1222 (by decide) ?_
      refine gg_iadd hG dL_law_1223 ?_
      obtain ⟨h318, h⟩ := h
      refine gg_sld (j := (a3 + 1).toNatClampNeg) hG dL_law_1224 rfl h318 rfl ?_
      refine gg_xv (As := [.int (xs ((a3 + 1).toNatClampNeg))]) (st := [.int v317]) hG dL_law_1225 ml_RL_149 Y_X11_count YV_X11_count (by decide) ⟨_, rfl, rfl⟩ (mt_X11_count h) rfl (by decide) (Nat.le_of_ble_eq_true rfl) rfl (gg_ki (fun v320 u319 h => ?_))
      refine gg_ic_eq (tgt := 1247) hG dL_law_1228 (by decide) (fun c321 => ?_) (fun c321 => ?_)
      · replace h := h.1 c321
        exact m_L_law_c1247 hG h hk18
      · replace h := h.2 c321
        refine gg_iconst (v := 0) hG dL_law_1231 (by decide) ?_
        exact gg_iret hG dL_law_1232 rfl (gg_nb (Or.inl rfl)).1 ⟨_, rfl, h⟩
    by_cases c322 : v3 = 32
    · refine gg_tabIn (off := 1200) (tgt := 1233) hG dL_law_33 (by rw [c322]; decide) (by rw [c322]; decide) (by rw [c322]; decide) (by decide) ?_
      replace h := h.2.2.2.2.2.2.2.2.2.2.2.2.2.2.2.2.2.2.2.2.2.2.2.2.2.2.2.2.2.2.2.2.1 c322
      refine gg_aload_n hG dL_law_1233 rfl rfl ?_
      refine gg_xv (As := []) (st := []) hG dL_law_1234 ml_RL_150 Y_X10_digest YV_X10_digest (by decide) ⟨_, rfl, rfl⟩ (mt_X10_digest h) rfl (by decide) (Nat.le_of_ble_eq_true rfl) rfl (gg_kj (fun v324 u323 h => ?_))
      refine gg_aload_n hG dL_law_1237 rfl rfl ?_
      refine gg_xv (As := []) (st := [.long v324]) hG dL_law_1238 ml_RL_154 Y_X11_digest YV_X11_digest (by decide) ⟨_, rfl, rfl⟩ (mt_X11_digest h) rfl (by decide) (Nat.le_of_ble_eq_true rfl) rfl (gg_kj (fun v326 u325 h => ?_))
      refine gg_lcmp hG dL_law_1241 ?_
      refine gg_if_eq (tgt := 1247) hG dL_law_1242 (by decide) (fun c327 => ?_) (fun c327 => ?_)
      · replace h := h.1 c327
        exact m_L_law_c1247 hG h hk18
      · replace h := h.2 c327
        refine gg_iconst (v := 0) hG dL_law_1245 (by decide) ?_
        exact gg_iret hG dL_law_1246 rfl (gg_nb (Or.inl rfl)).1 ⟨_, rfl, h⟩
    have hsw : v3.toInt < 0 ∨ 32 < v3.toInt := by
      have nc4 := lv_neT (a := 0) c4 (by decide)
      have nc14 := lv_neT (a := 1) c14 (by decide)
      have nc22 := lv_neT (a := 2) c22 (by decide)
      have nc30 := lv_neT (a := 3) c30 (by decide)
      have nc38 := lv_neT (a := 4) c38 (by decide)
      have nc48 := lv_neT (a := 5) c48 (by decide)
      have nc58 := lv_neT (a := 6) c58 (by decide)
      have nc66 := lv_neT (a := 7) c66 (by decide)
      have nc72 := lv_neT (a := 8) c72 (by decide)
      have nc78 := lv_neT (a := 9) c78 (by decide)
      have nc88 := lv_neT (a := 10) c88 (by decide)
      have nc98 := lv_neT (a := 11) c98 (by decide)
      have nc108 := lv_neT (a := 12) c108 (by decide)
      have nc118 := lv_neT (a := 13) c118 (by decide)
      have nc130 := lv_neT (a := 14) c130 (by decide)
      have nc138 := lv_neT (a := 15) c138 (by decide)
      have nc148 := lv_neT (a := 16) c148 (by decide)
      have nc158 := lv_neT (a := 17) c158 (by decide)
      have nc168 := lv_neT (a := 18) c168 (by decide)
      have nc176 := lv_neT (a := 19) c176 (by decide)
      have nc184 := lv_neT (a := 20) c184 (by decide)
      have nc194 := lv_neT (a := 21) c194 (by decide)
      have nc206 := lv_neT (a := 22) c206 (by decide)
      have nc222 := lv_neT (a := 23) c222 (by decide)
      have nc234 := lv_neT (a := 24) c234 (by decide)
      have nc242 := lv_neT (a := 25) c242 (by decide)
      have nc254 := lv_neT (a := 26) c254 (by decide)
      have nc262 := lv_neT (a := 27) c262 (by decide)
      have nc276 := lv_neT (a := 28) c276 (by decide)
      have nc288 := lv_neT (a := 29) c288 (by decide)
      have nc304 := lv_neT (a := 30) c304 (by decide)
      have nc314 := lv_neT (a := 31) c314 (by decide)
      have nc322 := lv_neT (a := 32) c322 (by decide)
      omega
    refine gg_tabOut (tgt := 1247) hG dL_law_33 hsw (by decide) ?_
    replace h := h.2.2.2.2.2.2.2.2.2.2.2.2.2.2.2.2.2.2.2.2.2.2.2.2.2.2.2.2.2.2.2.2.2 hsw
    exact m_L_law_c1247 hG h hk18
def w_L_law_c18 (N : Nat) (xs : Nat → Int32) (a3 : Int32) (u : gg_M)  (Q : Int32 → gg_M → Prop) : Prop :=
  gg_loop (fun (s : Int32 × gg_M) k18 => b_L_law_c18 N xs  s.1 s.2  k18 Q) (a3, u)
set_option maxRecDepth 10000 in
theorem m_L_law_c18 {N : Nat} {xs : Nat → Int32} {a3 : Int32} {u : gg_M}  {G : gg_T} {Q : Int32 → gg_M → Prop} (hG : gg_Cl (some (N, xs)) code 4 RL ret 12 (gg_eI Q) G)  (h : w_L_law_c18 N xs a3 u  Q)   : G 18 [some (.ref 110), some (.ref 0), some (.ref 1), some (.int a3)] [] u :=
  gg_loop_use (P := fun s : Int32 × gg_M => G 18 [some (.ref 110), some (.ref 0), some (.ref 1), some (.int s.1)] [] s.2) h (fun s rc hb hr => mb_L_law_c18 hG  hb   hr)
def w_L_law (N : Nat) (xs : Nat → Int32)  (u : gg_M)  (Q : Int32 → gg_M → Prop) : Prop :=
  w_L_law_c18 N xs 0 u Q
set_option maxRecDepth 10000 in
theorem m_L_law {N : Nat} {xs : Nat → Int32}  {u : gg_M}  {G : gg_T} {Q : Int32 → gg_M → Prop} (hG : gg_Cl (some (N, xs)) code 4 RL ret 12 (gg_eI Q) G)  (h : w_L_law N xs  u  Q)   : G 16 [some (.ref 110), some (.ref 0), some (.ref 1), none] [] u := by
  unfold w_L_law at h
  refine gg_iconst (v := 0) hG dL_law_16 (by decide) ?_
  refine gg_istore_n (L1 := [some (.ref 110), some (.ref 0), some (.ref 1), some (.int 0)]) hG dL_law_17 rfl (by decide) rfl ?_
  exact m_L_law_c18 hG h
