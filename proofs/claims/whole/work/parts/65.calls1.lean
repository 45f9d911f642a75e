/-! CALLS 1: rule, saddle, limit, pinch, best, throwing, status, end, rest, law -/
section
variable {P : zp} {n : Nat × Nat} {d : Nat}
theorem zp_C4 : zk_gR (zp_M P, n) 12 11 4 = some 33 := zp_gR (by decide +kernel)
theorem zp_C0 : zk_gR (zp_M P, n) 12 11 0 = some 13 := zp_gR (by decide +kernel)
theorem zp_C11 : zk_gI (zp_M P, n) 12 11 11 = some (P.1 12 11) := zp_gI (by decide +kernel)
theorem zp_C11p {x : Int32} : zk_pf (zp_M P, n) 12 11 11 (.int x) = some (zp_M (zp_sF P 12 11 x), n) := zp_pI (by decide +kernel)
theorem zp_T0 : zk_gI (zp_M P, n) 26 10 0 = some (P.1 26 0) := zp_gI (by decide +kernel)
theorem zp_P0 : zk_gI (zp_M P, n) 13 9 0 = some (P.1 13 0) := zp_gI (by decide +kernel)
theorem zp_P0p {x : Int32} : zk_pf (zp_M P, n) 13 9 0 (.int x) = some (zp_M (zp_sF P 13 0 x), n) := zp_pI (by decide +kernel)
theorem zp_R2 : zk_gI (zp_M P, n) 269 12 2 = some (P.1 269 2) := zp_gI (by decide +kernel)
theorem zp_R2p {x : Int32} : zk_pf (zp_M P, n) 269 12 2 (.int x) = some (zp_M (zp_sF P 269 2 x), n) := zp_pI (by decide +kernel)
theorem zp_R30 : zk_gI (zp_M P, n) 269 12 30 = some (P.1 269 30) := zp_gI (by decide +kernel)
theorem zp_R30p {x : Int32} : zk_pf (zp_M P, n) 269 12 30 (.int x) = some (zp_M (zp_sF P 269 30 x), n) := zp_pI (by decide +kernel)
theorem zp_R28 : zk_gR (zp_M P, n) 269 12 28 = some 287 := zp_gR (by decide +kernel)
theorem zp_a287 : zp_ad 287 = (0, 5) := by decide +kernel
theorem zs_35 : zp_sb 35 := Or.inl (Or.inl rfl)
theorem yc_limit (hI : yI P n.1) {p : Int32} : yOK (d + 20) P n m_SaddlerKnows_limit m_R_limit [.int p] := by
  obtain ⟨h0, T, V, nl, L, c0, hJ, hA, hK⟩ := id hI
  have hT := hJ.1
  have hR := hJ.2.1
  cases h : yrg T.1 p with
  | false =>
    refine yOK_q (v := -1) (P1 := P) (P2 := P) ?_ ?_ hI
    · rw [e_SaddlerKnows_limit, zp_Cv, Option.bind_some, yg_pers hT, h, zs_cI, Option.bind_some, zp_ib]; rfl
    · rw [e_R_limit, zp_Rv, Option.bind_some, yg_Rpers hR, h, zs_cI, Option.bind_some, zp_ib]; rfl
  | true =>
    obtain ⟨q, hq, rfl⟩ := yrg_o h
    refine yOK_q (v := ylm T q) (P1 := P) (P2 := P) ?_ ?_ hI
    · rw [e_SaddlerKnows_limit, zp_Cv, Option.bind_some, yg_pers hT, h, zs_cI, Option.bind_some, zp_ib, cond_true, zp_C3, Option.bind_some, zp_Tv, Option.bind_some, ylm_C hT hq, zs_cI, Option.bind_some]
    · rw [e_R_limit, zp_Rv, Option.bind_some, yg_Rpers hR, h, zs_cI, Option.bind_some, zp_ib, cond_true, zp_Rv, Option.bind_some, ylm_R hR hq, zs_cI, Option.bind_some]
theorem yc_status (hI : yI P n.1) {i : Int32} : yOK (d + 20) P n m_SaddlerKnows_status m_R_status [.int i] := by
  obtain ⟨h0, T, V, nl, L, c0, hJ, hA, hK⟩ := id hI
  cases h : yrg 5 i with
  | false =>
    refine yOK_q (v := -1) (P1 := P) (P2 := P) ?_ ?_ hI
    · rw [e_SaddlerKnows_status, zp_C10, Option.bind_some, zp_al zp_a268 (by decide), Option.bind_some]
      rw [yrg_e (by decide)] at h
      by_cases q : i < 0
      · rw [if_pos q]
      · rw [decide_eq_false q] at h
        rw [if_neg q, if_neg (show ¬ i < nI 5 from of_decide_eq_false h)]
    · rw [e_R_status, yg_Rin (m := 5) (by decide) (by decide) (by decide), h, zs_cI, Option.bind_some, zp_ib]; rfl
  | true =>
    obtain ⟨k, hk, rfl⟩ := yrg_o h
    refine yOK_q (v := P.2.1 268 k) (P1 := P) (P2 := P) ?_ ?_ hI
    · rw [e_SaddlerKnows_status, if_neg (zi_n (by omega)), zp_C10, Option.bind_some, zp_al zp_a268 (by decide), Option.bind_some, if_pos ((zi_nI (by omega) (by decide)).mpr hk), Option.bind_some, zp_ldi zp_a268 hk (by decide), Option.bind_some]
    · rw [e_R_status, yg_Rin (m := 5) (by decide) (by decide) (by decide), h, zs_cI, Option.bind_some, zp_ib, cond_true, zp_R28, Option.bind_some, zp_ldi zp_a287 hk (by decide), Option.bind_some, hK.1 k hk]
theorem yc_rule (hI : yI P n.1) {i : Int32} : yOK (d + 20) P n m_SaddlerKnows_rule m_R_rule [.int i] := by
  obtain ⟨h0, T, V, nl, L, c0, hJ, hA, hK⟩ := id hI
  have hT := hJ.1
  have hR := hJ.2.1
  have h6 := hT.2.1
  have hz : (P.1 269 25 = 0) ↔ T.1 = 0 := by rw [hR.1]; exact zi_eq (b := 0) (by omega) (by decide)
  by_cases hp : 0 < T.1
  · have hn : ¬ P.1 269 25 = 0 := fun z => by have := hz.mp z; omega
    cases h : yrg 2 i with
    | false =>
      have i0 : ¬ i = 0 := fun z => by rw [z, show yrg 2 0 = true by decide] at h; cases h
      have i1 : ¬ i = 1 := fun z => by rw [z, show yrg 2 1 = true by decide] at h; cases h
      refine yOK_q (v := -1) (P1 := P) (P2 := P) ?_ ?_ hI
      · rw [e_SaddlerKnows_rule, zp_Cv, Option.bind_some, yg_cnt hT, zs_cI, Option.bind_some, zp_ib, decide_eq_true hp, cond_true, if_neg i0, if_neg i1]
      · rw [e_R_rule, zp_R25, Option.bind_some, if_neg hn, yg_Rin (m := 2) (by decide) (by decide) (by decide), h, zs_cI, Option.bind_some, zp_ib]; rfl
    | true =>
      obtain ⟨k, hk, rfl⟩ := yrg_o h
      have hk : k = 0 ∨ k = 1 := by omega
      rcases hk with rfl | rfl
      · refine yOK_q (v := T.2.2.2.2.1) (P1 := P) (P2 := P) ?_ ?_ hI
        · rw [e_SaddlerKnows_rule, zp_Cv, Option.bind_some, yg_cnt hT, zs_cI, Option.bind_some, zp_ib, decide_eq_true hp, cond_true, if_pos (by decide), zp_C3, Option.bind_some, zp_T0, Option.bind_some, hT.2.2.2.1]
        · rw [e_R_rule, zp_R25, Option.bind_some, if_neg hn, yg_Rin (m := 2) (by decide) (by decide) (by decide), h, zs_cI, Option.bind_some, zp_ib, cond_true, if_pos (by decide), zp_R22, Option.bind_some, zp_lit (i := 0) (y := 0) zp_a283 rfl (by decide) (by decide), Option.bind_some, hR.2.2.2.1]
      · refine yOK_q (v := V.2.2.1) (P1 := P) (P2 := P) ?_ ?_ hI
        · rw [e_SaddlerKnows_rule, zp_Cv, Option.bind_some, yg_cnt hT, zs_cI, Option.bind_some, zp_ib, decide_eq_true hp, cond_true, if_neg (by decide), if_pos (by decide), zp_C5, Option.bind_some, zp_s4 zs_35, Option.bind_some, hA.1.2.2.1]
        · rw [e_R_rule, zp_R25, Option.bind_some, if_neg hn, yg_Rin (m := 2) (by decide) (by decide) (by decide), h, zs_cI, Option.bind_some, zp_ib, cond_true, if_neg (by decide), zp_R27, Option.bind_some, zp_lit (i := 38) (y := 38) zp_a286 rfl (by decide) (by decide), Option.bind_some, hA.2.1.2.2.1]
  · refine yOK_q (v := -1) (P1 := P) (P2 := P) ?_ ?_ hI
    · rw [e_SaddlerKnows_rule, zp_Cv, Option.bind_some, yg_cnt hT, zs_cI, Option.bind_some, zp_ib, decide_eq_false hp]; rfl
    · rw [e_R_rule, zp_R25, Option.bind_some, if_pos (hz.mpr (by omega))]
theorem yc_pinch (hI : yI P n.1) {p q f : Int32} : yOK (d + 20) P n m_SaddlerKnows_pinch m_R_pinch [.int p, .int q, .int f] := by
  obtain ⟨h0, T, V, nl, L, c0, hP⟩ := id hI
  have hT := hP.1.1
  have hR := hP.1.2.1
  cases h : ypr T.1 p q with
  | false =>
    refine yOK_q (v := -1) (P1 := P) (P2 := P) ?_ ?_ hI
    · rw [e_SaddlerKnows_pinch, zp_Cv, Option.bind_some, yg_pair hT, h, zs_cI, Option.bind_some, zp_ib]; rfl
    · rw [e_R_pinch, zp_Rv, Option.bind_some, yg_Rtwo hR, h, zs_cI, Option.bind_some, zp_ib]; rfl
  | true =>
    cases h2 : yrg 10 f with
    | false =>
      refine yOK_q (v := -1) (P1 := P) (P2 := P) ?_ ?_ hI
      · rw [e_SaddlerKnows_pinch, zp_Cv, Option.bind_some, yg_pair hT, h, zs_cI, Option.bind_some, zp_ib, cond_true, yg_fit, h2, zs_cI, Option.bind_some, zp_ib]; rfl
      · rw [e_R_pinch, zp_Rv, Option.bind_some, yg_Rtwo hR, h, zs_cI, Option.bind_some, zp_ib, cond_true, yg_Rin (m := 10) (by decide) (by decide) (by decide), h2, zs_cI, Option.bind_some, zp_ib]; rfl
    | true =>
      obtain ⟨a, c, ha, hc, -, rfl, rfl⟩ := ypr_o h
      obtain ⟨f', hf, rfl⟩ := yrg_o h2
      obtain ⟨P1, e1, f1⟩ := zs_wereIt (d := d + 13) (n := n) (f := f') zs_35 hT hP.2.1.1 hP.2.1.2.2.1 ha hc
      have hP1 := yP_F ySc_0 f1 hP
      obtain ⟨P2, e2, f2⟩ := zs_RpinchBy (d := d + 13) (n := n) (f := f') hP1.1.2.1 hP1.2.1.2.1 (by have := hP1.2.1.2.2.1.2; omega) ha hc
      refine yOK_q (v := yp T a c f' (V.2.1 c) V.2.2.2) (P1 := P1) (P2 := P2) ?_ ?_ ⟨h0, T, V, nl, L, c0, yP_F ySc_r f2 hP1⟩
      · rw [e_SaddlerKnows_pinch, zp_Cv, Option.bind_some, yg_pair hT, h, zs_cI, Option.bind_some, zp_ib, cond_true, yg_fit, h2, zs_cI, Option.bind_some, zp_ib, cond_true, zp_C4, Option.bind_some, zp_C5, Option.bind_some, zp_Lv, Option.bind_some, e1, zs_cI, Option.bind_some]
      · rw [e_R_pinch, zp_Rv, Option.bind_some, yg_Rtwo hP1.1.2.1, h, zs_cI, Option.bind_some, zp_ib, cond_true, yg_Rin (m := 10) (by decide) (by decide) (by decide), h2, zs_cI, Option.bind_some, zp_ib, cond_true, zp_Rv, Option.bind_some, e2, zs_cI, Option.bind_some]
theorem yc_throwing (hI : yI P n.1) {p : Int32} : yOK (d + 20) P n m_SaddlerKnows_throwing m_R_throwing [.int p] := by
  obtain ⟨h0, T, V, nl, L, c0, hP⟩ := id hI
  have hT := hP.1.1
  have hR := hP.1.2.1
  cases h : yrg T.1 p with
  | false =>
    refine yOK_q (v := -1) (P1 := P) (P2 := P) ?_ ?_ hI
    · rw [e_SaddlerKnows_throwing, zp_Cv, Option.bind_some, yg_pers hT, h, zs_cI, Option.bind_some, zp_ib]; rfl
    · rw [e_R_throwing, zp_Rv, Option.bind_some, yg_Rpers hR, h, zs_cI, Option.bind_some, zp_ib]; rfl
  | true =>
    obtain ⟨q, hq, rfl⟩ := yrg_o h
    obtain ⟨P1, e1, f1⟩ := zs_firstThrow (d := d + 12) (n := n) (m := 99) zs_35 hT hP.2.1.1 hP.2.1.2.2.1 hq (by decide)
    have hP1 := yP_F ySc_0 f1 hP
    obtain ⟨P2, e2, f2⟩ := zs_RthrowsIn (d := d + 8) (n := n) (m := 99) hP1.1.2.1 hP1.2.1.2.1 hP1.2.1.2.2.1 hq (by decide) (by have := hP1.2.1.2.2.2.1.2.2; omega)
    refine yOK_q (v := yfi (yfr T V q 99)) (P1 := P1) (P2 := P2) ?_ ?_ ⟨h0, T, V, nl, L, c0, yP_F ySc_t f2 hP1⟩
    · rw [e_SaddlerKnows_throwing, zp_Cv, Option.bind_some, yg_pers hT, h, zs_cI, Option.bind_some, zp_ib, cond_true, zp_C4, Option.bind_some, zp_C5, Option.bind_some, zp_Lv, Option.bind_some, show zk_sm (d + 19) m_Pinches_firstThrow [.ref 33, .ref 35, .int (zi q), .int 99] (zp_M P, n) = _ from e1, zs_cI, Option.bind_some]
    · rw [e_R_throwing, zp_Rv, Option.bind_some, yg_Rpers hP1.1.2.1, h, zs_cI, Option.bind_some, zp_ib, cond_true, zp_Rv, Option.bind_some, show zk_sm (d + 19) m_R_throwsIn [.ref 269, .int (zi q), .int 99] (zp_M P1, n) = _ from e2, zs_cI, Option.bind_some]
end
