/-! CALLS 28: fits, by both sides -/
theorem ySc_ff : ySc [(249, 8), (250, 4), (250, 5)] [251, 252, 253, 254, 259] := ⟨by decide, by decide, by decide, by decide, by decide, by decide⟩
theorem ySc_g6 : ySc [(269, 32)] [278, 279, 288, 290, 296] := ⟨by decide, by decide, by decide, by decide, by decide, by decide⟩
theorem ybt_b {U : Nat → Nat → yV} {nn : Nat} {N : yNo} {f : Nat} (hf : f < 10) : yb_t (ybt U nn N 10) f = yok (U f) nn N := by
  have e : ybt U nn N 10 = (List.range 10).foldl (fun a i => bif yok (U i) nn N then a ||| (1 <<< (zi i &&& 31)) else a) 0 := zl_fc (fun i a _ => by
    cases h : yok (U i) nn N with
    | false => rw [if_neg Bool.false_ne_true, cond_false]
    | true => rw [if_pos rfl, cond_true]) 0
  rw [e, yb_fold (by decide) (by omega), decide_eq_true hf, Bool.true_and]
section
variable {P : zp} {n : Nat × Nat} {d nl nn : Nat} {T : yT} {L : Nat → Nat × Nat × Nat} {c0 : Int32} {N : yNo}
theorem yg_told (h : P.1 26 3 = zi nl) (h8 : nl ≤ 8) {x : Int32} : zk_sm d m_SaddlerKnows_isToldSaddle [.ref 12, .int x] (zp_M P, n) = some (some (.int (zp_b (yrg nl x))), (zp_M P, n)) := by
  rw [e_SaddlerKnows_isToldSaddle, yrg_e (by omega)]
  by_cases q : x < 0
  · rw [if_pos q, decide_eq_true q]; rfl
  · rw [if_neg q, zp_C3, Option.bind_some, (zp_gI (by decide +kernel) : zk_gI (zp_M P, n) 26 10 3 = some (P.1 26 3)), Option.bind_some, h, decide_eq_false q]
    by_cases q2 : x < zi nl
    · rw [if_pos q2, decide_eq_true q2]; rfl
    · rw [if_neg q2, decide_eq_false q2]; rfl
theorem yg_Rtold (hT : yTR P T) (h : P.1 269 26 = zi nl) (h8 : nl ≤ 8) (h0 : T.1 = 0 → nl = 0) {x : Int32} : zk_sm (d + 1) m_R_isTold [.ref 269, .int x] (zp_M P, n) = some (some (.int (zp_b (yrg nl x))), (zp_M P, n)) := by
  have h6 := hT.2.1
  rw [e_R_isTold, zp_R25, Option.bind_some, hT.1]
  by_cases q : 0 < T.1
  · rw [if_pos ((zi_0 (by omega)).mpr q), (zp_R26 : zk_gI (zp_M P, n) 269 12 26 = _), Option.bind_some, h, zs_Rin, zs_cI, Option.bind_some, yrg_in (m := nl) (y := zi nl - 1) (by omega) (Int32.sub_add_cancel _ _) (fun z => by rw [z]; decide)]
    cases yrg nl x <;> rfl
  · rw [if_neg (fun z => q ((zi_0 (by omega)).mp z)), h0 (by omega)]
    rfl
theorem yc_fits (hI : yI P n.1) {x k : Int32} : yOK (d + 20) P n m_SaddlerKnows_fits m_R_fits [.int x, .int k] := by
  obtain ⟨h0, T, V, nl, L, c0, hP⟩ := id hI
  have hT := hP.1.1
  have hR := hP.1.2.1
  have h6 := hT.2.1
  obtain ⟨sC, sR⟩ := yX_s hP.1.2.2.1
  have hL := hP.1.2.2.1.2.2.2.2.1
  have h8 : nl ≤ 8 := sC.2.1
  have hz : T.1 = 0 → nl = 0 := fun z => by
    rcases Nat.eq_zero_or_pos nl with y | y
    · exact y
    · have := (hL 0 y).1; omega
  obtain ⟨nn, N, nC, nR, nB⟩ := yN_o h6 hP.1.2.2.2.2.1
  cases hx : yrg nl x with
  | false =>
    refine yOK_q (v := -1) (P1 := P) (P2 := P) ?_ ?_ hI
    · rw [e_SaddlerKnows_fits, zp_Cv, Option.bind_some, yg_told sC.1 h8, hx, zs_cI, Option.bind_some, zp_ib, cond_false]
    · rw [e_R_fits, zp_Rv, Option.bind_some, yg_Rtold hR sR.1 h8 hz, hx, zs_cI, Option.bind_some, zp_ib, cond_false]
  | true =>
    obtain ⟨i, hi, rfl⟩ := yrg_o hx
    have hp0 : 0 < T.1 := by have := (hL i hi).1; omega
    obtain ⟨P1, e1, b1, -, F1⟩ := zs_tryFits (d := d + 9) (n := n) (m := 0) hT nC sC nB hL hi (by decide)
    have hP1 := yP_F ySc_ff F1 hP
    have eC : zk_sm (d + 20) m_SaddlerKnows_fits [.ref 12, .int (zi i), .int k] (zp_M P, n) = some (some (.int (yfz (fun f => yok (yev T (ytf nl L c0 i f)) nn N) k 10 0 0)), (zp_M P1, n)) := by
      rw [e_SaddlerKnows_fits, zp_Cv, Option.bind_some, yg_told sC.1 h8, hx, zs_cI, Option.bind_some, zp_ib, cond_true, zp_C7, Option.bind_some, zp_Nv, Option.bind_some, show zk_sm (d + 19) m_Seeing_tryFits [.ref 249, .int (zi i), .int 0] (zp_M P, n) = _ from e1, zs_cV, Option.bind_some, zp_C7, Option.bind_some, zp_Nv, Option.bind_some]
      by_cases q : k = -1
      · rw [e_Seeing_fitting, if_pos q, zp_N8, Option.bind_some, b1, zs_bitCount, zs_cI, Option.bind_some, zs_cI, Option.bind_some, q, yfz_1 10 0 0 (by decide)]
        have e := zq_bits10 (fun f => yok (yev T (ytf nl L c0 i f)) nn N)
        rw [List.range_eq_range'] at e
        unfold ybt
        rw [List.range_eq_range', e]
        rfl
      · have e := zs_fit17 (d := d + 18) (n := n) (P := P1) (B := fun f => yok (yev T (ytf nl L c0 i f)) nn N) q (fun f hf => by rw [b1]; exact ybt_b hf) 10 0 0 rfl
        rw [e_Seeing_fitting, if_neg q, show zk_sf (d + 19) m_Seeing_fitting 17 [.ref 249, .int k, .int 0, .int 0] [] (zp_M P1, n) = _ from e, zs_cI, Option.bind_some]
    have sR1 := (yX_s hP1.1.2.2.1).2
    have nR1 : yNR P1 nn N := by
      obtain ⟨n1, n2, n3⟩ := nR
      refine ⟨(F1.1 269 46 (by decide)).trans n1, n2, fun j hj => ?_⟩
      rw [F1.2.1 292 (by decide), F1.2.1 293 (by decide), F1.2.1 294 (by decide), F1.2.1 295 (by decide)]
      exact n3 j hj
    by_cases q : k < -1
    · have q1 : ¬ k = -1 := fun z => by rw [z] at q; exact absurd q (by decide)
      have q0 : k < 0 := Int32.lt_trans q (by decide)
      rw [yfz_n q1 q0 10 0 0 (by decide)] at eC
      refine yOK_q (v := -1) (P1 := P1) (P2 := P1) eC ?_ ⟨h0, T, V, nl, L, c0, hP1⟩
      rw [e_R_fits, zp_Rv, Option.bind_some, yg_Rtold hP1.1.2.1 sR1.1 h8 hz, hx, zs_cI, Option.bind_some, zp_ib, cond_true, if_pos q]
    · obtain ⟨P2, e2, F2⟩ := zs_Rfits20 (d := d + 8) (n := n) (k := k) hp0 nB hL hi 10 0 0 P1 rfl (Nat.le_refl _) hP1.1.2.1 sR1 nR1
      refine yOK_q (P1 := P1) (P2 := P2) eC ?_ ⟨h0, T, V, nl, L, c0, yP_F ySc_g6 F2 hP1⟩
      rw [e_R_fits, zp_Rv, Option.bind_some, yg_Rtold hP1.1.2.1 sR1.1 h8 hz, hx, zs_cI, Option.bind_some, zp_ib, cond_true, if_neg q]
      exact e2
end
