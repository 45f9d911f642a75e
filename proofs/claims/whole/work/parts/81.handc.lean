/-! CALLS 10: give, salve, off, stitch, makes -/
section
variable {P : zp} {n : Nat × Nat} {d : Nat}
theorem zs_Rr0 {P1 : zp} {k : Nat} {x : Int32} (hx : x = zi k) (hk : k < 5) : zk_sm d m_R_isRefused [.ref 269, .int x] (zp_M P1, n) = some (some (.int 1), (zp_M (zp_sA P1 287 k (P1.2.1 287 k + 1)), n)) := by rw [hx]; exact zs_Rrefk hk
theorem zs_r0 {k : Nat} {x : Int32} (hx : x = zi k) (hk : k < 5) : zk_sm (d + 1) m_SaddlerKnows_refused [.ref 12, .int x] (zp_M P, n) = some (some (.int (-1)), (zp_M (zp_sA P 268 k (P.2.1 268 k + 1)), n)) := by rw [hx]; exact zs_refk hk
theorem zi_1n : ¬ (1 : Int32) = 0 := by decide
theorem zi_0y : (0 : Int32) = 0 := rfl
theorem yl38 {V : yV} (hR : yR (P.2.1 286) V) : zk_ldI (zp_M P, n) 286 38 = some V.2.2.1 := (zp_lit (i := 38) (y := 38) zp_a286 rfl (by decide) (by decide)).trans (by rw [hR.2.2.1])
theorem ys38 {x : Int32} : zk_stI (zp_M P, n) 286 38 x = some (zp_M (zp_sA P 286 38 x), n) := zp_sit (i := 38) (y := 38) zp_a286 rfl (by decide) (by decide)
theorem yc_give (hI : yI P n.1) {x : Int32} : yOK (d + 20) P n m_SaddlerKnows_give m_R_give [.int x] := by
  obtain ⟨h0, T, V, nl, L, c0, hP⟩ := id hI
  have hT := hP.1.1
  have hR := hP.1.2.1
  have h6 := hT.2.1
  have hC := hP.2.1.1
  have h4 : P.1 35 4 = V.2.2.1 := hC.2.2.1
  by_cases hp : 0 < T.1
  · have hz' : ∀ P' : zp, yTR P' T → ¬ P'.1 269 25 = 0 := fun P' h' z => by
      rw [h'.1] at z
      have := (zi_eq (b := 0) (by omega) (by decide)).mp z
      omega
    have hin : ∀ s : zk_S, zk_sm (d + 19) m_R_in [.int x, .int 1, .int 50] s = some (some (.int (zp_b (!decide (x < 1) && !decide (50 < x)))), s) := fun s => zs_Rin
    by_cases q1 : x < 1
    · refine yOK_ref (k := 1) h0 hP (by decide) ?_ (fun P1 _ hR1 _ => ?_)
      · rw [e_SaddlerKnows_give, zp_Cv, Option.bind_some, yg_cnt hT, zs_cI, Option.bind_some, zp_ib, decide_eq_true hp, cond_true, if_pos q1, zp_Cv, Option.bind_some, zs_r0 (k := 1) (x := 1) rfl (by decide), zs_cI, Option.bind_some]
      · rw [e_R_give, zp_R25, Option.bind_some, if_neg (hz' P1 hR1), hin, decide_eq_true q1, zs_cI, Option.bind_some, zp_ib, Bool.not_true, Bool.false_and, cond_false, zp_Rv, Option.bind_some, zs_Rr0 (k := 1) (x := 1) rfl (by decide), zs_cI, Option.bind_some, if_neg zi_1n]
    · by_cases q2 : 50 < x
      · refine yOK_ref (k := 1) h0 hP (by decide) ?_ (fun P1 _ hR1 _ => ?_)
        · rw [e_SaddlerKnows_give, zp_Cv, Option.bind_some, yg_cnt hT, zs_cI, Option.bind_some, zp_ib, decide_eq_true hp, cond_true, if_neg q1, if_pos q2, zp_Cv, Option.bind_some, zs_r0 (k := 1) (x := 1) rfl (by decide), zs_cI, Option.bind_some]
        · rw [e_R_give, zp_R25, Option.bind_some, if_neg (hz' P1 hR1), hin, decide_eq_false q1, decide_eq_true q2, zs_cI, Option.bind_some, zp_ib, Bool.not_true, Bool.and_false, cond_false, zp_Rv, Option.bind_some, zs_Rr0 (k := 1) (x := 1) rfl (by decide), zs_cI, Option.bind_some, if_neg zi_1n]
      · by_cases q3 : 999 < V.2.2.1 + x
        · refine yOK_ref (k := 1) h0 hP (by decide) ?_ (fun P1 _ hR1 r1 => ?_)
          · rw [e_SaddlerKnows_give, zp_Cv, Option.bind_some, yg_cnt hT, zs_cI, Option.bind_some, zp_ib, decide_eq_true hp, cond_true, if_neg q1, if_neg q2, zp_C5, Option.bind_some, zp_s4 zs_35, Option.bind_some, h4, if_pos q3, zp_Cv, Option.bind_some, zs_r0 (k := 1) (x := 1) rfl (by decide), zs_cI, Option.bind_some]
          · rw [e_R_give, zp_R25, Option.bind_some, if_neg (hz' P1 hR1), hin, decide_eq_false q1, decide_eq_false q2, zs_cI, Option.bind_some, zp_ib, Bool.not_false, Bool.true_and, cond_true, zp_R27, Option.bind_some, yl38 r1, Option.bind_some, if_pos q3, zp_Rv, Option.bind_some, zs_Rr0 (k := 1) (x := 1) rfl (by decide), zs_cI, Option.bind_some, if_neg zi_1n]
        · refine yOK_act (V' := yks V (V.2.2.1 + x)) (v := V.2.2.1 + x) h0 hP hP.2.1.2.2.1 hP.2.1.2.2.2.1 rfl (fun P1 hJ1 hC1 hk => ?_) (fun P2 P3 hJ2 hR2 hT3 hR3 hk => ?_)
          · refine ⟨zp_sF P1 35 4 (V.2.2.1 + x), ?_, yC_st hC1 rfl rfl rfl rfl, yF_f (by decide)⟩
            rw [e_SaddlerKnows_give, zp_Cv, Option.bind_some, yg_cnt hT, zs_cI, Option.bind_some, zp_ib, decide_eq_true hp, cond_true, if_neg q1, if_neg q2, zp_C5, Option.bind_some, zp_s4 zs_35, Option.bind_some, h4, if_neg q3, zp_C6, Option.bind_some, Option.bind_some, zp_Sv, Option.bind_some, hk, zs_cV, Option.bind_some, zp_C5, Option.bind_some, zp_s4 zs_35, Option.bind_some, hC1.2.2.1, zp_s4p zs_35, Option.bind_some, zp_C5, Option.bind_some, zp_s4 zs_35, Option.bind_some, zp_f9]
          · refine ⟨zp_sA P3 286 38 (V.2.2.1 + x), ?_, yR_coin hR3, yF_A (by decide), fun j hj => zp_a8 (by omega)⟩
            rw [e_R_give, zp_R25, Option.bind_some, if_neg (hz' P2 hJ2.2.1), hin, decide_eq_false q1, decide_eq_false q2, zs_cI, Option.bind_some, zp_ib, Bool.not_false, Bool.true_and, cond_true, zp_R27, Option.bind_some, yl38 hR2, Option.bind_some, if_neg q3, zp_Rv, Option.bind_some, zs_Rref0, zs_cI, Option.bind_some, if_pos zi_0y, zp_Rv, Option.bind_some, hk, zs_cV, Option.bind_some, zp_R27, Option.bind_some, yl38 hR3, Option.bind_some, ys38, Option.bind_some, zp_R27, Option.bind_some, yl38 (yR_coin hR3), Option.bind_some]
            rfl
  · have hz : ∀ P' : zp, yTR P' T → P'.1 269 25 = 0 := fun P' h' => by rw [h'.1, show T.1 = 0 by omega]; rfl
    refine yOK_ref (k := 0) h0 hP (by decide) ?_ (fun P1 _ hR1 _ => ?_)
    · rw [e_SaddlerKnows_give, zp_Cv, Option.bind_some, yg_cnt hT, zs_cI, Option.bind_some, zp_ib, decide_eq_false hp, cond_false, zp_Cv, Option.bind_some, zs_r0 (k := 0) (x := 0) rfl (by decide), zs_cI, Option.bind_some]
    · rw [e_R_give, zp_R25, Option.bind_some, if_pos (hz P1 hR1), zp_Rv, Option.bind_some, zs_Rr0 (k := 0) (x := 0) rfl (by decide), zs_cI, Option.bind_some, if_neg zi_1n]
/-- five less -/
theorem yB_salve {np : Nat} {V : yV} {p : Nat} (hB : yB np V) (hp : p < np) (h6 : np ≤ 6) : yB np (ysg' (yks V (V.2.2.1 - 2)) p (zq_max 0 (V.2.1 p - 5))) := by
  obtain ⟨g1, g2⟩ := hB.1 p (by omega)
  obtain ⟨k, hk, e⟩ := zi_r g1
  have hk9 : k ≤ 99 := by
    by_cases z : k ≤ 99
    · exact z
    · rw [e] at g2; exact absurd ((zi_l (i := 99) (by decide) hk).mpr (by omega)) g2
  have e2 : zq_max 0 (V.2.1 p - 5) = zi (k - 5) := by
    rw [e]
    have hz : (zi k).toInt = (k : Int) := Int32.toInt_ofNat_small hk
    have h5 : (5 : Int32).toInt = 5 := by decide
    have h0 : (0 : Int32).toInt = 0 := by decide
    have hs : (zi k - 5).toInt = (k : Int) - 5 := by
      rw [Int32.toInt_sub, hz, h5, Int.bmod_def]
      omega
    unfold zq_max
    by_cases z : (0 : Int32) < zi k - 5
    · rw [if_pos z]
      have := Int32.lt_iff_toInt_lt.mp z
      exact zi_sub (b := 5) (by omega)
    · rw [if_neg z]
      have : ¬ (0 : Int32).toInt < (zi k - 5).toInt := fun w => z (Int32.lt_iff_toInt_lt.mpr w)
      rw [show k - 5 = 0 by omega]; rfl
  rw [e2]
  exact yB_gall (V := yks V (V.2.2.1 - 2)) hB hp (by omega)
theorem yc_salve (hI : yI P n.1) {p : Int32} : yOK (d + 20) P n m_SaddlerKnows_salve m_R_salve [.int p] := by
  obtain ⟨h0, T, V, nl, L, c0, hP⟩ := id hI
  have hT := hP.1.1
  have hR := hP.1.2.1
  have h6 := hT.2.1
  have hC := hP.2.1.1
  have h4 : P.1 35 4 = V.2.2.1 := hC.2.2.1
  cases h : yrg T.1 p with
  | false =>
    refine yOK_ref (k := 0) h0 hP (by decide) ?_ (fun P1 _ hR1 _ => ?_)
    · rw [e_SaddlerKnows_salve, zp_Cv, Option.bind_some, yg_pers hT, h, zs_cI, Option.bind_some, zp_ib, cond_false, zp_Cv, Option.bind_some, zs_r0 (k := 0) (x := 0) rfl (by decide), zs_cI, Option.bind_some]
    · rw [e_R_salve, zp_Rv, Option.bind_some, yg_Rpers hR1, h, zs_cI, Option.bind_some, zp_ib, cond_false, zp_Rv, Option.bind_some, zs_Rr0 (k := 0) (x := 0) rfl (by decide), zs_cI, Option.bind_some, if_neg zi_1n]
  | true =>
    obtain ⟨a, ha, rfl⟩ := yrg_o h
    have eg : zp_gt P 39 6 (zi a) = V.2.1 a := yC_g (b := 35) hC (by omega)
    have lg : ∀ (P' : zp) (V' : yV), yR (P'.2.1 286) V' → zk_ldI (zp_M P', n) 286 (32 + zi a) = some (V'.2.1 a) := fun P' V' h' => by rw [zi_32, zp_ldi zp_a286 (show 32 + a < 221 by omega) (by decide), h'.2.1 a (by omega)]
    by_cases q1 : V.2.1 a = 0
    · refine yOK_ref (k := 2) h0 hP (by decide) ?_ (fun P1 _ hR1 r1 => ?_)
      · rw [e_SaddlerKnows_salve, zp_Cv, Option.bind_some, yg_pers hT, h, zs_cI, Option.bind_some, zp_ib, cond_true, zp_C5, Option.bind_some, zp_s3 zs_35, Option.bind_some, zs_at (zp_sb_t zs_35).2.2.2.2 (by decide), zs_cI, Option.bind_some, eg, if_pos q1, zp_Cv, Option.bind_some, zs_r0 (k := 2) (x := 2) rfl (by decide), zs_cI, Option.bind_some]
      · rw [e_R_salve, zp_Rv, Option.bind_some, yg_Rpers hR1, h, zs_cI, Option.bind_some, zp_ib, cond_true, zp_R27, Option.bind_some, lg P1 V r1, Option.bind_some, if_pos q1, zp_Rv, Option.bind_some, zs_Rr0 (k := 2) (x := 2) rfl (by decide), zs_cI, Option.bind_some, if_neg zi_1n]
    · by_cases q2 : V.2.2.1 < 2
      · refine yOK_ref (k := 3) h0 hP (by decide) ?_ (fun P1 _ hR1 r1 => ?_)
        · rw [e_SaddlerKnows_salve, zp_Cv, Option.bind_some, yg_pers hT, h, zs_cI, Option.bind_some, zp_ib, cond_true, zp_C5, Option.bind_some, zp_s3 zs_35, Option.bind_some, zs_at (zp_sb_t zs_35).2.2.2.2 (by decide), zs_cI, Option.bind_some, eg, if_neg q1, zp_C5, Option.bind_some, zp_s4 zs_35, Option.bind_some, h4, if_pos q2, zp_Cv, Option.bind_some, zs_r0 (k := 3) (x := 3) rfl (by decide), zs_cI, Option.bind_some]
        · rw [e_R_salve, zp_Rv, Option.bind_some, yg_Rpers hR1, h, zs_cI, Option.bind_some, zp_ib, cond_true, zp_R27, Option.bind_some, lg P1 V r1, Option.bind_some, if_neg q1, Option.bind_some, yl38 r1, Option.bind_some, if_pos q2, zp_Rv, Option.bind_some, zs_Rr0 (k := 3) (x := 3) rfl (by decide), zs_cI, Option.bind_some, if_neg zi_1n]
      · refine yOK_act (V' := ysg' (yks V (V.2.2.1 - 2)) a (zq_max 0 (V.2.1 a - 5))) (v := zq_max 0 (V.2.1 a - 5)) h0 hP hP.2.1.2.2.1 (yB_salve hP.2.1.2.2.2.1 ha h6) rfl (fun P1 hJ1 hC1 hk => ?_) (fun P2 P3 hJ2 hR2 hT3 hR3 hk => ?_)
        · have y2 : yC (zp_sF P1 35 4 (V.2.2.1 - 2)) 35 (yks V (V.2.2.1 - 2)) := yC_st hC1 rfl rfl rfl rfl
          obtain ⟨p1, p2⟩ := yC_put (x := zq_max 0 (V.2.1 a - 5)) y2 (show a < 6 by omega)
          refine ⟨_, ?_, p1, yF_t (yF_f (by decide)) (yF_m p2 (fun _ h => by cases h) (fun _ h => h))⟩
          rw [e_SaddlerKnows_salve, zp_Cv, Option.bind_some, yg_pers hT, h, zs_cI, Option.bind_some, zp_ib, cond_true, zp_C5, Option.bind_some, zp_s3 zs_35, Option.bind_some, zs_at (zp_sb_t zs_35).2.2.2.2 (by decide), zs_cI, Option.bind_some, eg, if_neg q1, zp_C5, Option.bind_some, zp_s4 zs_35, Option.bind_some, h4, if_neg q2, zp_C6, Option.bind_some, Option.bind_some, zp_Sv, Option.bind_some, hk, zs_cV, Option.bind_some, zp_C5, Option.bind_some, zp_s4 zs_35, Option.bind_some, hC1.2.2.1, zp_s4p zs_35, Option.bind_some, zs_max, zs_cI, Option.bind_some, zp_C5, Option.bind_some, zp_s3 zs_35, Option.bind_some, zs_put (zp_sb_t zs_35).2.2.2.2 (by decide), zs_cV, Option.bind_some]
        · have r1 := yR_coin (c := V.2.2.1 - 2) hR3
          refine ⟨zp_sA (zp_sA P3 286 38 (V.2.2.1 - 2)) 286 (32 + a) (zq_max 0 (V.2.1 a - 5)), ?_, yR_gall r1 (by omega), yF_t (yF_A (by decide)) (yF_A (by decide)), fun j hj => (zp_a8 (by omega)).trans (zp_a8 (by omega))⟩
          rw [e_R_salve, zp_Rv, Option.bind_some, yg_Rpers hJ2.2.1, h, zs_cI, Option.bind_some, zp_ib, cond_true, zp_R27, Option.bind_some, lg P2 V hR2, Option.bind_some, if_neg q1, Option.bind_some, yl38 hR2, Option.bind_some, if_neg q2, zp_Rv, Option.bind_some, zs_Rref0, zs_cI, Option.bind_some, if_pos zi_0y, zp_Rv, Option.bind_some, hk, zs_cV, Option.bind_some, zp_R27, Option.bind_some, yl38 hR3, Option.bind_some, ys38, Option.bind_some, zp_R27, Option.bind_some, Option.bind_some, lg _ _ r1, Option.bind_some, show (yks V (V.2.2.1 - 2)).2.1 a = V.2.1 a from rfl, zs_max, zs_cI, Option.bind_some, zi_32, zp_sti zp_a286 (show 32 + a < 221 by omega) (by decide), Option.bind_some, zp_R27, Option.bind_some, zp_ldi zp_a286 (show 32 + a < 221 by omega) (by decide), Option.bind_some, zp_a9]
theorem yc_off (hI : yI P n.1) {i : Int32} : yOK (d + 20) P n m_SaddlerKnows_off m_R_off [.int i] := by
  obtain ⟨h0, T, V, nl, L, c0, hP⟩ := id hI
  have hT := hP.1.1
  have hR := hP.1.2.1
  have h6 := hT.2.1
  have hC := hP.2.1.1
  have hO := hP.2.1.2.2.1
  cases h : yis V i with
  | false =>
    refine yOK_ref (k := 0) h0 hP (by decide) ?_ (fun P1 _ hR1 r1 => ?_)
    · rw [e_SaddlerKnows_off, zp_C5, Option.bind_some, zp_sv zs_35, Option.bind_some, yg_sad zs_35 hC hO h6, h, zs_cI, Option.bind_some, zp_ib, cond_false, zp_Cv, Option.bind_some, zs_r0 (k := 0) (x := 0) rfl (by decide), zs_cI, Option.bind_some]
    · rw [e_R_off, zp_Rv, Option.bind_some, yg_Rthere hR1 r1 hO, h, zs_cI, Option.bind_some, zp_ib, cond_false, zp_Rv, Option.bind_some, zs_Rr0 (k := 0) (x := 0) rfl (by decide), zs_cI, Option.bind_some, if_neg zi_1n]
  | true =>
    obtain ⟨k, r, q, f, hk, rfl, hv⟩ := yis_o h
    have hO' : yO T.1 (ysp V k none) := yO_sp hO (fun _ _ _ z => by cases z)
    refine yOK_act (V' := ysp V k none) (v := zq_bits (yns (ysp V k none))) h0 hP hO' hP.2.1.2.2.2.1 rfl (fun P1 hJ1 hC1 hkp => ?_) (fun P2 P3 hJ2 hR2 hT3 hR3 hkp => ?_)
    · obtain ⟨s1, s2⟩ := yC_set (i := k) (o := none) (x := -1) (y := -1) (z := 0) hC1 hk rfl
      refine ⟨_, ?_, s1, yF_m s2 (fun _ h => by cases h) (fun _ h => h)⟩
      rw [e_SaddlerKnows_off, zp_C5, Option.bind_some, zp_sv zs_35, Option.bind_some, yg_sad zs_35 hC hO h6, h, zs_cI, Option.bind_some, zp_ib, cond_true, zp_C6, Option.bind_some, zp_C5, Option.bind_some, zp_Sv, Option.bind_some, hkp, zs_cV, Option.bind_some, zp_C5, Option.bind_some, zp_sv zs_35, Option.bind_some, zs_ungirth zs_35, zs_cV, Option.bind_some, zp_C5, Option.bind_some, zp_sv zs_35, Option.bind_some, zs_saddleCount zs_35, zs_cI, Option.bind_some, yns_C s1 hO' h6]
    · have r1 := yR_off hR3 hk
      have f1 : yF [] [286] P3 (zp_sA P3 286 (4 * k + 3) 0) := yF_A (by decide)
      refine ⟨zp_sA P3 286 (4 * k + 3) 0, ?_, r1, f1, fun j hj => zp_a8 (by omega)⟩
      rw [e_R_off, zp_Rv, Option.bind_some, yg_Rthere hJ2.2.1 hR2 hO, h, zs_cI, Option.bind_some, zp_ib, cond_true, zp_Rv, Option.bind_some, zs_Rref0, zs_cI, Option.bind_some, if_pos zi_0y, zp_Rv, Option.bind_some, hkp, zs_cV, Option.bind_some, zp_R27, Option.bind_some, zi_43, zp_sti zp_a286 (show 4 * k + 3 < 221 by omega) (by decide), Option.bind_some, zp_Rv, Option.bind_some, yg_Rones (yTR_F (by decide) f1 hT3) r1 hO', zs_cI, Option.bind_some, zs_bitCount, zs_cI, Option.bind_some]
theorem yC_fit {P1 : zp} {V : yV} {k r q f f' : Nat} (hC : yC P1 35 V) (hk : k < 8) (hv : V.1 k = some (r, q, f)) : yC (zp_sA P1 38 k (zi f')) 35 (ysp V k (some (r, q, f'))) := by
  obtain ⟨c1, c2, c3⟩ := yC_p hC hk hv
  refine ⟨fun k' hk' => ?_, fun p hp => ?_, hC.2.2.1, hC.2.2.2⟩
  · show match (if k' = k then some (r, q, f') else V.1 k') with | none => (zp_sA P1 38 k (zi f')).2.1 36 k' = -1 | some (r, q, f) => (zp_sA P1 38 k (zi f')).2.1 36 k' = zi r ∧ (zp_sA P1 38 k (zi f')).2.1 37 k' = zi q ∧ (zp_sA P1 38 k (zi f')).2.1 38 k' = zi f
    rw [zp_a7 (show 36 ≠ 38 by decide), zp_a7 (show 37 ≠ 38 by decide)]
    by_cases z : k' = k
    · simp only [if_pos z]
      rw [z]
      exact ⟨c1, c2, zp_a9⟩
    · simp only [if_neg z]
      rw [zp_a8 z]
      exact hC.1 k' hk'
  · show (zp_sA P1 38 k (zi f')).2.1 39 p = _
    rw [zp_a7 (by decide)]; exact hC.2.1 p hp
theorem yc_stitch (hI : yI P n.1) {i g : Int32} : yOK (d + 20) P n m_SaddlerKnows_stitch m_R_stitch [.int i, .int g] := by
  obtain ⟨h0, T, V, nl, L, c0, hP⟩ := id hI
  have hT := hP.1.1
  have hR := hP.1.2.1
  have h6 := hT.2.1
  have hC := hP.2.1.1
  have hO := hP.2.1.2.2.1
  have h4 : P.1 35 4 = V.2.2.1 := hC.2.2.1
  cases h : yis V i with
  | false =>
    refine yOK_ref (k := 0) h0 hP (by decide) ?_ (fun P1 _ hR1 r1 => ?_)
    · rw [e_SaddlerKnows_stitch, zp_C5, Option.bind_some, zp_sv zs_35, Option.bind_some, yg_sad zs_35 hC hO h6, h, zs_cI, Option.bind_some, zp_ib, cond_false, zp_Cv, Option.bind_some, zs_r0 (k := 0) (x := 0) rfl (by decide), zs_cI, Option.bind_some]
    · rw [e_R_stitch, zp_Rv, Option.bind_some, yg_Rthere hR1 r1 hO, h, zs_cI, Option.bind_some, zp_ib, cond_false, zp_Rv, Option.bind_some, zs_Rr0 (k := 0) (x := 0) rfl (by decide), zs_cI, Option.bind_some, if_neg zi_1n]
  | true =>
    obtain ⟨k, r, q, f, hk, rfl, hv⟩ := yis_o h
    obtain ⟨c1, c2, c3⟩ := yC_p hC hk hv
    have ofit : ∀ (P' : zp) d', yR (P'.2.1 286) V → zk_sm d' m_R_of [.ref 269, .int (zi k), .int 2] (zp_M P', n) = some (some (.int (zi f)), (zp_M P', n)) := fun P' d' h' => by rw [zs_Rof (x := 2) (k := 2) (by omega) rfl, (yR_p h' hk hv).2.2.1]
    cases h2 : yrg 10 g with
    | false =>
      refine yOK_ref (k := 1) h0 hP (by decide) ?_ (fun P1 _ hR1 r1 => ?_)
      · rw [e_SaddlerKnows_stitch, zp_C5, Option.bind_some, zp_sv zs_35, Option.bind_some, yg_sad zs_35 hC hO h6, h, zs_cI, Option.bind_some, zp_ib, cond_true, yg_fit, h2, zs_cI, Option.bind_some, zp_ib, cond_false, zp_Cv, Option.bind_some, zs_r0 (k := 1) (x := 1) rfl (by decide), zs_cI, Option.bind_some]
      · rw [e_R_stitch, zp_Rv, Option.bind_some, yg_Rthere hR1 r1 hO, h, zs_cI, Option.bind_some, zp_ib, cond_true, yg_Rin (m := 10) (by decide) (by decide) (by decide), h2, zs_cI, Option.bind_some, zp_ib, cond_false, zp_Rv, Option.bind_some, zs_Rr0 (k := 1) (x := 1) rfl (by decide), zs_cI, Option.bind_some, if_neg zi_1n]
    | true =>
      obtain ⟨f', hf', rfl⟩ := yrg_o h2
      have eat : zp_gt P (35 + 3) 8 (zi k) = zi f := (zp_gi hk (by decide)).trans c3
      by_cases q1 : zi f = zi f'
      · refine yOK_ref (k := 2) h0 hP (by decide) ?_ (fun P1 _ hR1 r1 => ?_)
        · rw [e_SaddlerKnows_stitch, zp_C5, Option.bind_some, zp_sv zs_35, Option.bind_some, yg_sad zs_35 hC hO h6, h, zs_cI, Option.bind_some, zp_ib, cond_true, yg_fit, h2, zs_cI, Option.bind_some, zp_ib, cond_true, zp_C5, Option.bind_some, zp_s2 zs_35, Option.bind_some, zs_at (zp_sb_t zs_35).2.2.2.1 (by decide), zs_cI, Option.bind_some, eat, if_pos q1, zp_Cv, Option.bind_some, zs_r0 (k := 2) (x := 2) rfl (by decide), zs_cI, Option.bind_some]
        · rw [e_R_stitch, zp_Rv, Option.bind_some, yg_Rthere hR1 r1 hO, h, zs_cI, Option.bind_some, zp_ib, cond_true, yg_Rin (m := 10) (by decide) (by decide) (by decide), h2, zs_cI, Option.bind_some, zp_ib, cond_true, zp_Rv, Option.bind_some, ofit P1 _ r1, zs_cI, Option.bind_some, if_pos q1, zp_Rv, Option.bind_some, zs_Rr0 (k := 2) (x := 2) rfl (by decide), zs_cI, Option.bind_some, if_neg zi_1n]
      · by_cases q2 : V.2.2.1 < zq_abs (zi f - zi f')
        · refine yOK_ref (k := 3) h0 hP (by decide) ?_ (fun P1 _ hR1 r1 => ?_)
          · rw [e_SaddlerKnows_stitch, zp_C5, Option.bind_some, zp_sv zs_35, Option.bind_some, yg_sad zs_35 hC hO h6, h, zs_cI, Option.bind_some, zp_ib, cond_true, yg_fit, h2, zs_cI, Option.bind_some, zp_ib, cond_true, zp_C5, Option.bind_some, zp_s2 zs_35, Option.bind_some, zs_at (zp_sb_t zs_35).2.2.2.1 (by decide), zs_cI, Option.bind_some, eat, if_neg q1, zs_abs, zs_cI, Option.bind_some, zp_C5, Option.bind_some, zp_s4 zs_35, Option.bind_some, h4, if_pos q2, zp_Cv, Option.bind_some, zs_r0 (k := 3) (x := 3) rfl (by decide), zs_cI, Option.bind_some]
          · rw [e_R_stitch, zp_Rv, Option.bind_some, yg_Rthere hR1 r1 hO, h, zs_cI, Option.bind_some, zp_ib, cond_true, yg_Rin (m := 10) (by decide) (by decide) (by decide), h2, zs_cI, Option.bind_some, zp_ib, cond_true, zp_Rv, Option.bind_some, ofit P1 _ r1, zs_cI, Option.bind_some, if_neg q1, zp_R27, Option.bind_some, yl38 r1, Option.bind_some, zp_Rv, Option.bind_some, ofit P1 _ r1, zs_cI, Option.bind_some, zs_abs, zs_cI, Option.bind_some, if_pos q2, zp_Rv, Option.bind_some, zs_Rr0 (k := 3) (x := 3) rfl (by decide), zs_cI, Option.bind_some, if_neg zi_1n]
        · obtain ⟨o1, o2, o3, o4⟩ := hO.1 k r q f hk hv
          have hO' : yO T.1 (ysp (yks V (V.2.2.1 - zq_abs (zi f - zi f'))) k (some (r, q, f'))) := yO_sp (V := yks V (V.2.2.1 - zq_abs (zi f - zi f'))) hO (fun _ _ _ z => by cases z; exact ⟨o1, o2, o3, hf'⟩)
          refine yOK_act (V' := ysp (yks V (V.2.2.1 - zq_abs (zi f - zi f'))) k (some (r, q, f'))) (v := zi f) h0 hP hO' hP.2.1.2.2.2.1 rfl (fun P1 hJ1 hC1 hkp => ?_) (fun P2 P3 hJ2 hR2 hT3 hR3 hkp => ?_)
          · have y2 : yC (zp_sF P1 35 4 (V.2.2.1 - zq_abs (zi f - zi f'))) 35 (yks V (V.2.2.1 - zq_abs (zi f - zi f'))) := yC_st hC1 rfl rfl rfl rfl
            refine ⟨zp_sA (zp_sF P1 35 4 (V.2.2.1 - zq_abs (zi f - zi f'))) 38 k (zi f'), ?_, yC_fit y2 hk hv, yF_t (yF_f (by decide)) (yF_A (by decide))⟩
            rw [e_SaddlerKnows_stitch, zp_C5, Option.bind_some, zp_sv zs_35, Option.bind_some, yg_sad zs_35 hC hO h6, h, zs_cI, Option.bind_some, zp_ib, cond_true, yg_fit, h2, zs_cI, Option.bind_some, zp_ib, cond_true, zp_C5, Option.bind_some, zp_s2 zs_35, Option.bind_some, zs_at (zp_sb_t zs_35).2.2.2.1 (by decide), zs_cI, Option.bind_some, eat, if_neg q1, zs_abs, zs_cI, Option.bind_some, zp_C5, Option.bind_some, zp_s4 zs_35, Option.bind_some, h4, if_neg q2, zp_C6, Option.bind_some, Option.bind_some, zp_Sv, Option.bind_some, hkp, zs_cV, Option.bind_some, zp_C5, Option.bind_some, zp_s4 zs_35, Option.bind_some, hC1.2.2.1, zp_s4p zs_35, Option.bind_some, zp_C5, Option.bind_some, zp_s2 zs_35, Option.bind_some, zs_put (zp_sb_t zs_35).2.2.2.1 (by decide), zs_cV, Option.bind_some, zp_pi hk (by decide)]
          · have r1 := yR_coin (c := V.2.2.1 - zq_abs (zi f - zi f')) hR3
            have e42 : 4 * zi k + 2 = zi (4 * k + 2) := zi_4 k 2
            refine ⟨zp_sA (zp_sA P3 286 38 (V.2.2.1 - zq_abs (zi f - zi f'))) 286 (4 * k + 2) (zi f'), ?_, yR_fit r1 hk hv, yF_t (yF_A (by decide)) (yF_A (by decide)), fun j hj => (zp_a8 (by omega)).trans (zp_a8 (by omega))⟩
            rw [e_R_stitch, zp_Rv, Option.bind_some, yg_Rthere hJ2.2.1 hR2 hO, h, zs_cI, Option.bind_some, zp_ib, cond_true, yg_Rin (m := 10) (by decide) (by decide) (by decide), h2, zs_cI, Option.bind_some, zp_ib, cond_true, zp_Rv, Option.bind_some, ofit P2 _ hR2, zs_cI, Option.bind_some, if_neg q1, zp_R27, Option.bind_some, yl38 hR2, Option.bind_some, zp_Rv, Option.bind_some, ofit P2 _ hR2, zs_cI, Option.bind_some, zs_abs, zs_cI, Option.bind_some, if_neg q2, zp_Rv, Option.bind_some, zs_Rref0, zs_cI, Option.bind_some, if_pos zi_0y, zp_Rv, Option.bind_some, hkp, zs_cV, Option.bind_some, zp_Rv, Option.bind_some, ofit P3 _ hR3, zs_cI, Option.bind_some, zp_R27, Option.bind_some, yl38 hR3, Option.bind_some, zs_abs, zs_cI, Option.bind_some, ys38, Option.bind_some, zp_R27, Option.bind_some, e42, zp_sti zp_a286 (show 4 * k + 2 < 221 by omega) (by decide), Option.bind_some]
theorem yfp_b {V : yV} {k : Nat} (h : yfp V = some k) : k < 8 := List.mem_range.mp (List.find?_range_eq_some.mp h).2.1
theorem yc_makes (hI : yI P n.1) {p q g : Int32} : yOK (d + 20) P n m_SaddlerKnows_makes m_R_makes [.int p, .int q, .int g] := by
  obtain ⟨h0, T, V, nl, L, c0, hP⟩ := id hI
  have hT := hP.1.1
  have hR := hP.1.2.1
  have h6 := hT.2.1
  have hC := hP.2.1.1
  have hO := hP.2.1.2.2.1
  have h4 : P.1 35 4 = V.2.2.1 := hC.2.2.1
  cases hp : yrg T.1 p with
  | false =>
    refine yOK_ref (k := 0) h0 hP (by decide) ?_ (fun P1 _ hR1 r1 => ?_)
    · rw [e_SaddlerKnows_makes, zp_Cv, Option.bind_some, yg_pers hT, hp, zs_cI, Option.bind_some, zp_ib, cond_false, zp_Cv, Option.bind_some, zs_r0 (k := 0) (x := 0) rfl (by decide), zs_cI, Option.bind_some]
    · rw [e_R_makes, zp_Rv, Option.bind_some, yg_Rpers hR1, hp, zs_cI, Option.bind_some, zp_ib, cond_false, zp_Rv, Option.bind_some, zs_Rr0 (k := 0) (x := 0) rfl (by decide), zs_cI, Option.bind_some, if_neg zi_1n]
  | true =>
    cases hq : yrg T.1 q with
    | false =>
      refine yOK_ref (k := 0) h0 hP (by decide) ?_ (fun P1 _ hR1 r1 => ?_)
      · rw [e_SaddlerKnows_makes, zp_Cv, Option.bind_some, yg_pers hT, hp, zs_cI, Option.bind_some, zp_ib, cond_true, zp_Cv, Option.bind_some, yg_pers hT, hq, zs_cI, Option.bind_some, zp_ib, cond_false, zp_Cv, Option.bind_some, zs_r0 (k := 0) (x := 0) rfl (by decide), zs_cI, Option.bind_some]
      · rw [e_R_makes, zp_Rv, Option.bind_some, yg_Rpers hR1, hp, zs_cI, Option.bind_some, zp_ib, cond_true, zp_Rv, Option.bind_some, yg_Rpers hR1, hq, zs_cI, Option.bind_some, zp_ib, cond_false, zp_Rv, Option.bind_some, zs_Rr0 (k := 0) (x := 0) rfl (by decide), zs_cI, Option.bind_some, if_neg zi_1n]
    | true =>
      obtain ⟨a, ha, rfl⟩ := yrg_o hp
      obtain ⟨b, hb, rfl⟩ := yrg_o hq
      by_cases q1 : zi a = zi b
      · refine yOK_ref (k := 1) h0 hP (by decide) ?_ (fun P1 _ hR1 r1 => ?_)
        · rw [e_SaddlerKnows_makes, zp_Cv, Option.bind_some, yg_pers hT, hp, zs_cI, Option.bind_some, zp_ib, cond_true, zp_Cv, Option.bind_some, yg_pers hT, hq, zs_cI, Option.bind_some, zp_ib, cond_true, if_pos q1, zp_Cv, Option.bind_some, zs_r0 (k := 1) (x := 1) rfl (by decide), zs_cI, Option.bind_some]
        · rw [e_R_makes, zp_Rv, Option.bind_some, yg_Rpers hR1, hp, zs_cI, Option.bind_some, zp_ib, cond_true, zp_Rv, Option.bind_some, yg_Rpers hR1, hq, zs_cI, Option.bind_some, zp_ib, cond_true, if_pos q1, zp_Rv, Option.bind_some, zs_Rr0 (k := 1) (x := 1) rfl (by decide), zs_cI, Option.bind_some, if_neg zi_1n]
      · cases hg : yrg 10 g with
        | false =>
          refine yOK_ref (k := 1) h0 hP (by decide) ?_ (fun P1 _ hR1 r1 => ?_)
          · rw [e_SaddlerKnows_makes, zp_Cv, Option.bind_some, yg_pers hT, hp, zs_cI, Option.bind_some, zp_ib, cond_true, zp_Cv, Option.bind_some, yg_pers hT, hq, zs_cI, Option.bind_some, zp_ib, cond_true, if_neg q1, yg_fit, hg, zs_cI, Option.bind_some, zp_ib, cond_false, zp_Cv, Option.bind_some, zs_r0 (k := 1) (x := 1) rfl (by decide), zs_cI, Option.bind_some]
          · rw [e_R_makes, zp_Rv, Option.bind_some, yg_Rpers hR1, hp, zs_cI, Option.bind_some, zp_ib, cond_true, zp_Rv, Option.bind_some, yg_Rpers hR1, hq, zs_cI, Option.bind_some, zp_ib, cond_true, if_neg q1, yg_Rin (m := 10) (by decide) (by decide) (by decide), hg, zs_cI, Option.bind_some, zp_ib, cond_false, zp_Rv, Option.bind_some, zs_Rr0 (k := 1) (x := 1) rfl (by decide), zs_cI, Option.bind_some, if_neg zi_1n]
        | true =>
          obtain ⟨f, hf, rfl⟩ := yrg_o hg
          cases hs : (ypl V a b).isSome with
          | true =>
            refine yOK_ref (k := 2) h0 hP (by decide) ?_ (fun P1 _ hR1 r1 => ?_)
            · rw [e_SaddlerKnows_makes, zp_Cv, Option.bind_some, yg_pers hT, hp, zs_cI, Option.bind_some, zp_ib, cond_true, zp_Cv, Option.bind_some, yg_pers hT, hq, zs_cI, Option.bind_some, zp_ib, cond_true, if_neg q1, yg_fit, hg, zs_cI, Option.bind_some, zp_ib, cond_true, zp_C5, Option.bind_some, zp_sv zs_35, Option.bind_some, ypl_C zs_35 hC hO h6 (by omega) (by omega), zs_cI, Option.bind_some, if_neg (fun z => by have := yfi_n.mp z; rw [hs] at this; cases this), zp_Cv, Option.bind_some, zs_r0 (k := 2) (x := 2) rfl (by decide), zs_cI, Option.bind_some]
            · rw [e_R_makes, zp_Rv, Option.bind_some, yg_Rpers hR1, hp, zs_cI, Option.bind_some, zp_ib, cond_true, zp_Rv, Option.bind_some, yg_Rpers hR1, hq, zs_cI, Option.bind_some, zp_ib, cond_true, if_neg q1, yg_Rin (m := 10) (by decide) (by decide) (by decide), hg, zs_cI, Option.bind_some, zp_ib, cond_true, zp_Rv, Option.bind_some, ypl_R hR1 (by omega) r1 hO (by omega) (by omega), hs, zs_cI, Option.bind_some, zp_ib, cond_true, zp_Rv, Option.bind_some, zs_Rr0 (k := 2) (x := 2) rfl (by decide), zs_cI, Option.bind_some, if_neg zi_1n]
          | false =>
            by_cases q2 : V.2.2.1 < 3
            · refine yOK_ref (k := 3) h0 hP (by decide) ?_ (fun P1 _ hR1 r1 => ?_)
              · rw [e_SaddlerKnows_makes, zp_Cv, Option.bind_some, yg_pers hT, hp, zs_cI, Option.bind_some, zp_ib, cond_true, zp_Cv, Option.bind_some, yg_pers hT, hq, zs_cI, Option.bind_some, zp_ib, cond_true, if_neg q1, yg_fit, hg, zs_cI, Option.bind_some, zp_ib, cond_true, zp_C5, Option.bind_some, zp_sv zs_35, Option.bind_some, ypl_C zs_35 hC hO h6 (by omega) (by omega), zs_cI, Option.bind_some, if_pos (yfi_n.mpr hs), zp_C5, Option.bind_some, zp_sv zs_35, Option.bind_some, yfp_C zs_35 hC hO h6, zs_cI, Option.bind_some, zp_C5, Option.bind_some, zp_s4 zs_35, Option.bind_some, h4, if_pos q2, zp_Cv, Option.bind_some, zs_r0 (k := 3) (x := 3) rfl (by decide), zs_cI, Option.bind_some]
              · rw [e_R_makes, zp_Rv, Option.bind_some, yg_Rpers hR1, hp, zs_cI, Option.bind_some, zp_ib, cond_true, zp_Rv, Option.bind_some, yg_Rpers hR1, hq, zs_cI, Option.bind_some, zp_ib, cond_true, if_neg q1, yg_Rin (m := 10) (by decide) (by decide) (by decide), hg, zs_cI, Option.bind_some, zp_ib, cond_true, zp_Rv, Option.bind_some, ypl_R hR1 (by omega) r1 hO (by omega) (by omega), hs, zs_cI, Option.bind_some, zp_ib, cond_false, zp_R27, Option.bind_some, yl38 r1, Option.bind_some, if_pos q2, zp_Rv, Option.bind_some, zs_Rr0 (k := 3) (x := 3) rfl (by decide), zs_cI, Option.bind_some, if_neg zi_1n]
            · cases hfp : yfp V with
              | none =>
                refine yOK_ref (k := 3) h0 hP (by decide) ?_ (fun P1 _ hR1 r1 => ?_)
                · rw [e_SaddlerKnows_makes, zp_Cv, Option.bind_some, yg_pers hT, hp, zs_cI, Option.bind_some, zp_ib, cond_true, zp_Cv, Option.bind_some, yg_pers hT, hq, zs_cI, Option.bind_some, zp_ib, cond_true, if_neg q1, yg_fit, hg, zs_cI, Option.bind_some, zp_ib, cond_true, zp_C5, Option.bind_some, zp_sv zs_35, Option.bind_some, ypl_C zs_35 hC hO h6 (by omega) (by omega), zs_cI, Option.bind_some, if_pos (yfi_n.mpr hs), zp_C5, Option.bind_some, zp_sv zs_35, Option.bind_some, yfp_C zs_35 hC hO h6, hfp, zs_cI, Option.bind_some, zp_C5, Option.bind_some, zp_s4 zs_35, Option.bind_some, h4, if_neg q2, if_pos (show yfi none = -1 from rfl), zp_Cv, Option.bind_some, zs_r0 (k := 3) (x := 3) rfl (by decide), zs_cI, Option.bind_some]
                · rw [e_R_makes, zp_Rv, Option.bind_some, yg_Rpers hR1, hp, zs_cI, Option.bind_some, zp_ib, cond_true, zp_Rv, Option.bind_some, yg_Rpers hR1, hq, zs_cI, Option.bind_some, zp_ib, cond_true, if_neg q1, yg_Rin (m := 10) (by decide) (by decide) (by decide), hg, zs_cI, Option.bind_some, zp_ib, cond_true, zp_Rv, Option.bind_some, ypl_R hR1 (by omega) r1 hO (by omega) (by omega), hs, zs_cI, Option.bind_some, zp_ib, cond_false, zp_R27, Option.bind_some, yl38 r1, Option.bind_some, if_neg q2, zp_Rv, Option.bind_some, yfp_R r1, hfp, zs_cI, Option.bind_some, if_pos (show yfi none = -1 from rfl), zp_Rv, Option.bind_some, zs_Rr0 (k := 3) (x := 3) rfl (by decide), zs_cI, Option.bind_some, if_neg zi_1n]
              | some k =>
                have hk := yfp_b hfp
                have hab : a ≠ b := fun z => q1 (by rw [z])
                have hO' : yO T.1 (ysp (yks V (V.2.2.1 - 3)) k (some (a, b, f))) := yO_sp (V := yks V (V.2.2.1 - 3)) hO (fun _ _ _ z => by cases z; exact ⟨ha, hb, hab, hf⟩)
                have nk : ¬ yfi (some k) = -1 := zi_n1 (by omega)
                refine yOK_act (V' := ysp (yks V (V.2.2.1 - 3)) k (some (a, b, f))) (v := zi k) h0 hP hO' hP.2.1.2.2.2.1 rfl (fun P1 hJ1 hC1 hkp => ?_) (fun P2 P3 hJ2 hR2 hT3 hR3 hkp => ?_)
                · have y2 : yC (zp_sF P1 35 4 (V.2.2.1 - 3)) 35 (yks V (V.2.2.1 - 3)) := yC_st hC1 rfl rfl rfl rfl
                  obtain ⟨s1, s2⟩ := yC_set (i := k) (o := some (a, b, f)) (x := zi a) (y := zi b) (z := zi f) y2 hk ⟨rfl, rfl, rfl⟩
                  refine ⟨_, ?_, s1, yF_t (yF_f (by decide)) (yF_m s2 (fun _ h => by cases h) (fun _ h => h))⟩
                  rw [e_SaddlerKnows_makes, zp_Cv, Option.bind_some, yg_pers hT, hp, zs_cI, Option.bind_some, zp_ib, cond_true, zp_Cv, Option.bind_some, yg_pers hT, hq, zs_cI, Option.bind_some, zp_ib, cond_true, if_neg q1, yg_fit, hg, zs_cI, Option.bind_some, zp_ib, cond_true, zp_C5, Option.bind_some, zp_sv zs_35, Option.bind_some, ypl_C zs_35 hC hO h6 (by omega) (by omega), zs_cI, Option.bind_some, if_pos (yfi_n.mpr hs), zp_C5, Option.bind_some, zp_sv zs_35, Option.bind_some, yfp_C zs_35 hC hO h6, hfp, zs_cI, Option.bind_some, zp_C5, Option.bind_some, zp_s4 zs_35, Option.bind_some, h4, if_neg q2, if_neg nk, zp_C6, Option.bind_some, Option.bind_some, zp_Sv, Option.bind_some, hkp, zs_cV, Option.bind_some, zp_C5, Option.bind_some, zp_s4 zs_35, Option.bind_some, hC1.2.2.1, zp_s4p zs_35, Option.bind_some, zp_C5, Option.bind_some, zp_sv zs_35, Option.bind_some, zs_girth zs_35, zs_cV, Option.bind_some]
                  rfl
                · have r1 := yR_coin (c := V.2.2.1 - 3) hR3
                  have hfp' : yfp (yks V (V.2.2.1 - 3)) = some k := hfp
                  refine ⟨_, ?_, yR_make (r := a) (q := b) (f := f) r1 hk, yF_t (yF_A (by decide)) (yF_t (yF_t (yF_t (yF_A (by decide)) (yF_A (by decide))) (yF_A (by decide))) (yF_A (by decide))), fun j hj => (zp_a8 (by omega)).trans ((zp_a8 (by omega)).trans ((zp_a8 (by omega)).trans ((zp_a8 (by omega)).trans (zp_a8 (by omega)))))⟩
                  have e40 : 4 * zi k + 0 = zi (4 * k + 0) := zi_4 k 0
                  have e41 : 4 * zi k + 1 = zi (4 * k + 1) := zi_4 k 1
                  have e42 : 4 * zi k + 2 = zi (4 * k + 2) := zi_4 k 2
                  have em : zk_sm (d + 19) m_R_makeNow [.ref 269, .int (zi a), .int (zi b), .int (zi f)] (zp_M (zp_sA P3 286 38 (V.2.2.1 - 3)), n) = some (some (.int (zi k)), (zp_M (zp_sA (zp_sA (zp_sA (zp_sA (zp_sA P3 286 38 (V.2.2.1 - 3)) 286 (4 * k + 0) (zi a)) 286 (4 * k + 1) (zi b)) 286 (4 * k + 2) (zi f)) 286 (4 * k + 3) 1), n)) := by
                    rw [e_R_makeNow, zp_Rv, Option.bind_some, yfp_R r1, hfp', zs_cI, Option.bind_some]
                    show ((zk_gR (zp_M (zp_sA P3 286 38 (V.2.2.1 - 3)), n) 269 12 27).bind fun b2 => (zk_stI (zp_M (zp_sA P3 286 38 (V.2.2.1 - 3)), n) b2 (4 * zi k + 0) (zi a)).bind fun t3 => _) = _
                    rw [zp_R27, Option.bind_some, e40, zp_sti zp_a286 (show 4 * k + 0 < 221 by omega) (by decide), Option.bind_some, zp_R27, Option.bind_some]
                    show ((zk_stI _ 286 (4 * zi k + 1) (zi b)).bind fun t5 => _) = _
                    rw [e41, zp_sti zp_a286 (show 4 * k + 1 < 221 by omega) (by decide), Option.bind_some, zp_R27, Option.bind_some]
                    show ((zk_stI _ 286 (4 * zi k + 2) (zi f)).bind fun t7 => _) = _
                    rw [e42, zp_sti zp_a286 (show 4 * k + 2 < 221 by omega) (by decide), Option.bind_some, zp_R27, Option.bind_some]
                    show ((zk_stI _ 286 (4 * zi k + 3) 1).bind fun t9 => _) = _
                    rw [zi_43, zp_sti zp_a286 (show 4 * k + 3 < 221 by omega) (by decide), Option.bind_some]
                    rfl
                  rw [e_R_makes, zp_Rv, Option.bind_some, yg_Rpers hJ2.2.1, hp, zs_cI, Option.bind_some, zp_ib, cond_true, zp_Rv, Option.bind_some, yg_Rpers hJ2.2.1, hq, zs_cI, Option.bind_some, zp_ib, cond_true, if_neg q1, yg_Rin (m := 10) (by decide) (by decide) (by decide), hg, zs_cI, Option.bind_some, zp_ib, cond_true, zp_Rv, Option.bind_some, ypl_R hJ2.2.1 (by omega) hR2 hO (by omega) (by omega), hs, zs_cI, Option.bind_some, zp_ib, cond_false, zp_R27, Option.bind_some, yl38 hR2, Option.bind_some, if_neg q2, zp_Rv, Option.bind_some, yfp_R hR2, hfp, zs_cI, Option.bind_some, if_neg nk, zp_Rv, Option.bind_some, zs_Rref0, zs_cI, Option.bind_some, if_pos zi_0y, zp_Rv, Option.bind_some, hkp, zs_cV, Option.bind_some, zp_R27, Option.bind_some, yl38 hR3, Option.bind_some, ys38, Option.bind_some, zp_Rv, Option.bind_some, em, zs_cI, Option.bind_some]
end
