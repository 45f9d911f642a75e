/-! PARSING 25: the call text of a county: what both sides lay -/
section
variable {n : Nat × Nat} {P : zp} {x : Int32}
theorem zz_T0 : zk_gI (zp_M P, n) 16 10 0 = some (P.1 16 0) := zp_gI (by decide +kernel)
theorem zz_T1 : zk_gI (zp_M P, n) 16 10 1 = some (P.1 16 1) := zp_gI (by decide +kernel)
theorem zz_U0p : zk_pf (zp_M P, n) 26 10 0 (.int x) = some (zp_M (zp_sF P 26 0 x), n) := zp_pI (by decide +kernel)
theorem zz_U1p : zk_pf (zp_M P, n) 26 10 1 (.int x) = some (zp_M (zp_sF P 26 1 x), n) := zp_pI (by decide +kernel)
theorem zz_U2p : zk_pf (zp_M P, n) 26 10 2 (.int x) = some (zp_M (zp_sF P 26 2 x), n) := zp_pI (by decide +kernel)
theorem zz_U3p : zk_pf (zp_M P, n) 26 10 3 (.int x) = some (zp_M (zp_sF P 26 3 x), n) := zp_pI (by decide +kernel)
theorem zz_U7 : zk_gR (zp_M P, n) 26 10 7 = some 30 := zp_gR (by decide +kernel)
theorem zz_U8 : zk_gR (zp_M P, n) 26 10 8 = some 31 := zp_gR (by decide +kernel)
theorem zz_U9 : zk_gR (zp_M P, n) 26 10 9 = some 32 := zp_gR (by decide +kernel)
theorem zz_a30 : zp_ad 30 = (0, 8) := by decide +kernel
theorem zz_a31 : zp_ad 31 = (0, 8) := by decide +kernel
theorem zz_a32 : zp_ad 32 = (0, 8) := by decide +kernel
theorem zz_R25p : zk_pf (zp_M P, n) 269 12 25 (.int x) = some (zp_M (zp_sF P 269 25 x), n) := zp_pI (by decide +kernel)
theorem zz_R26p : zk_pf (zp_M P, n) 269 12 26 (.int x) = some (zp_M (zp_sF P 269 26 x), n) := zp_pI (by decide +kernel)
theorem zs_forget {d : Nat} : zk_sm d m_Past_forget [.ref 40] (zp_M P, n) = some (none, (zp_M (zp_sF (zp_sF P 40 6 0) 40 4 0), n)) := by
  rw [e_Past_forget, zp_S6p, Option.bind_some, zp_S4p (Or.inl rfl), Option.bind_some]
set_option maxHeartbeats 1000000 in
theorem zs_toldcopy {D : yD} {d : Nat} (hv : yDv D) (hD : yDp P D) : ∃ P', zk_sm (d + 1) m_Told_copy [.ref 26, .ref 16] (zp_M P, n) = some (none, (zp_M P', n)) ∧ yF [(26, 0), (26, 1), (26, 2), (26, 3)] [27, 28, 29, 30, 31, 32] P P' ∧ P'.1 26 0 = zi D.1.1 ∧ P'.1 26 1 = D.1.2.1 ∧ P'.1 26 2 = zi D.2.1.1 ∧ P'.1 26 3 = zi D.2.2.1 ∧ (∀ p, p < D.2.1.1 → P'.2.1 27 p = D.2.1.2 0 p ∧ P'.2.1 28 p = D.2.1.2 1 p ∧ P'.2.1 29 p = D.2.1.2 2 p) ∧ ∀ l, l < D.2.2.1 → P'.2.1 30 l = zi (D.2.2.2 l).1 ∧ P'.2.1 31 l = zi (D.2.2.2 l).2.1 ∧ P'.2.1 32 l = zi (D.2.2.2 l).2.2 := by
  obtain ⟨v1, v2, v3, v4⟩ := hv
  obtain ⟨d1, d2, d3, d4, d5, d6, d7⟩ := hD
  obtain ⟨P1, hP1⟩ : ∃ P1, P1 = zp_sF (zp_sF (zp_sF (zp_sF P 26 0 (zi D.1.1)) 26 1 D.1.2.1) 26 2 (zi D.2.1.1)) 26 3 (zi D.2.2.1) := ⟨_, rfl⟩
  have a1 : (zp_sF P 26 0 (zi D.1.1)).1 16 1 = D.1.2.1 := d2
  have a2 : (zp_sF (zp_sF P 26 0 (zi D.1.1)) 26 1 D.1.2.1).1 16 2 = zi D.2.1.1 := d4
  have a3 : (zp_sF (zp_sF (zp_sF P 26 0 (zi D.1.1)) 26 1 D.1.2.1) 26 2 (zi D.2.1.1)).1 16 3 = zi D.2.2.1 := d5
  have f1 : yF [(26, 0), (26, 1), (26, 2), (26, 3)] [27, 28, 29, 30, 31, 32] P P1 := by rw [hP1]; exact yF_t (yF_t (yF_t (yF_f (by decide)) (yF_f (by decide))) (yF_f (by decide))) (yF_f (by decide))
  obtain ⟨p1, p2, p3, p4⟩ := @zq_cp_t P1 17 27 6 (by decide)
  obtain ⟨q1, q2, q3, q4⟩ := @zq_cp_t (zq_cp P1 17 27 6) 18 28 6 (by decide)
  obtain ⟨r1, r2, r3, r4⟩ := @zq_cp_t (zq_cp (zq_cp P1 17 27 6) 18 28 6) 19 29 6 (by decide)
  obtain ⟨s1, s2, s3, s4⟩ := @zq_cp_t (zq_cp (zq_cp (zq_cp P1 17 27 6) 18 28 6) 19 29 6) 20 30 8 (by decide)
  obtain ⟨t1, t2, t3, t4⟩ := @zq_cp_t (zq_cp (zq_cp (zq_cp (zq_cp P1 17 27 6) 18 28 6) 19 29 6) 20 30 8) 21 31 8 (by decide)
  obtain ⟨u1, u2, u3, u4⟩ := @zq_cp_t (zq_cp (zq_cp (zq_cp (zq_cp (zq_cp P1 17 27 6) 18 28 6) 19 29 6) 20 30 8) 21 31 8) 22 32 8 (by decide)
  have eF : (zq_cp (zq_cp (zq_cp (zq_cp (zq_cp (zq_cp P1 17 27 6) 18 28 6) 19 29 6) 20 30 8) 21 31 8) 22 32 8).1 = P1.1 := by rw [u3, t3, s3, r3, q3, p3]
  refine ⟨zq_cp (zq_cp (zq_cp (zq_cp (zq_cp (zq_cp P1 17 27 6) 18 28 6) 19 29 6) 20 30 8) 21 31 8) 22 32 8, ?_, ?_, ?_, ?_, ?_, ?_, fun p hp => ?_, fun l hl => ?_⟩
  · rw [e_Told_copy, zz_T0, Option.bind_some, d1, zz_U0p, Option.bind_some, zz_T1, Option.bind_some, a1, zz_U1p, Option.bind_some, zz_T2, Option.bind_some, a2, zz_U2p, Option.bind_some, zz_T3, Option.bind_some, a3, zz_U3p, Option.bind_some, ← hP1, zz_T4, Option.bind_some, zp_T4, Option.bind_some, zs_copyRow zz_a17 zp_a27 (by decide), zs_cV, Option.bind_some, zz_T5, Option.bind_some, zp_T5, Option.bind_some, zs_copyRow zz_a18 zp_a28 (by decide), zs_cV, Option.bind_some, zz_T6, Option.bind_some, zp_T6, Option.bind_some, zs_copyRow zz_a19 zp_a29 (by decide), zs_cV, Option.bind_some, zz_T7, Option.bind_some, zz_U7, Option.bind_some, zs_copyRow zz_a20 zz_a30 (by decide), zs_cV, Option.bind_some, zz_T8, Option.bind_some, zz_U8, Option.bind_some, zs_copyRow zz_a21 zz_a31 (by decide), zs_cV, Option.bind_some, zz_T9, Option.bind_some, zz_U9, Option.bind_some, zs_copyRow zz_a22 zz_a32 (by decide), zs_cV, Option.bind_some]
  · exact yF_t f1 (yF_t (yF_t (yF_t (yF_t (yF_t (yF_cp (by decide) (by decide)) (yF_cp (by decide) (by decide))) (yF_cp (by decide) (by decide))) (yF_cp (by decide) (by decide))) (yF_cp (by decide) (by decide))) (yF_cp (by decide) (by decide)))
  · rw [eF, hP1]; rfl
  · rw [eF, hP1]; rfl
  · rw [eF, hP1]; rfl
  · rw [eF, hP1]; rfl
  · have h6 : p < 6 := by omega
    obtain ⟨b1, b2, b3⟩ := d6 p hp
    refine ⟨?_, ?_, ?_⟩
    · rw [u2 27 (by decide), t2 27 (by decide), s2 27 (by decide), r2 27 (by decide), q2 27 (by decide), p1, if_pos h6, hP1]; exact b1
    · rw [u2 28 (by decide), t2 28 (by decide), s2 28 (by decide), r2 28 (by decide), q1, if_pos h6, p2 18 (by decide), hP1]; exact b2
    · rw [u2 29 (by decide), t2 29 (by decide), s2 29 (by decide), r1, if_pos h6, q2 19 (by decide), p2 19 (by decide), hP1]; exact b3
  · have h8 : l < 8 := by omega
    obtain ⟨b1, b2, b3⟩ := d7 l hl
    refine ⟨?_, ?_, ?_⟩
    · rw [u2 30 (by decide), t2 30 (by decide), s1, if_pos h8, r2 20 (by decide), q2 20 (by decide), p2 20 (by decide), hP1]; exact b1
    · rw [u2 31 (by decide), t1, if_pos h8, s2 21 (by decide), r2 21 (by decide), q2 21 (by decide), p2 21 (by decide), hP1]; exact b2
    · rw [u1, if_pos h8, t2 22 (by decide), s2 22 (by decide), r2 22 (by decide), q2 22 (by decide), p2 22 (by decide), hP1]; exact b3
theorem zs_take18 {d : Nat} : ∃ P', zk_sf (d + 1) m_R_takeCounty 18 [.ref 269, .int 0] [] (zp_M P, n) = zk_sf (d + 1) m_R_takeCounty 43 [.ref 269, .int 0] [] (zp_M P', n) ∧ yF [] [283] P P' ∧ ∀ i, i < 2 → P'.2.1 283 i = P.2.1 280 i := by
  refine zl_ind (m := 2) (L := fun i (s : zp) => zk_sf (d + 1) m_R_takeCounty 18 [.ref 269, .int (zi i)] [] (zp_M s, n)) (I := fun i s => yF [] [283] P s ∧ ∀ y, y < i → s.2.1 283 y = P.2.1 280 y) (Q := fun r => ∃ P', r = zk_sf (d + 1) m_R_takeCounty 43 [.ref 269, .int 0] [] (zp_M P', n) ∧ yF [] [283] P P' ∧ ∀ i, i < 2 → P'.2.1 283 i = P.2.1 280 i) (fun i s hi hI => Or.inr ?_) (fun s hI => ⟨s, ?_, hI⟩) (a := P) ⟨yF_r, fun y hy => absurd hy (Nat.not_lt_zero y)⟩
  · obtain ⟨f, h⟩ := hI
    refine ⟨zp_sA s 283 i (P.2.1 280 i), ?_, yF_t f (yF_A (by decide)), fun y hy => ?_⟩
    · show zk_sf (d + 1) m_R_takeCounty 18 [.ref 269, .int (zi i)] [] (zp_M s, n) = _
      rw [e_R_takeCounty_18, if_pos (show zi i < 2 from (zi_l (m := 2) (by omega) (by decide)).mpr hi), zp_R22, Option.bind_some, zz_R17, Option.bind_some, zp_ldi zz_a280 hi (by decide), Option.bind_some, zp_sti zp_a283 hi (by decide), Option.bind_some, zi_s, f.2.1 280 (by decide)]
    · by_cases z : y = i
      · rw [z]; exact zp_a9
      · exact (zp_a8 z).trans (h y (by omega))
  · show zk_sf (d + 1) m_R_takeCounty 18 [.ref 269, .int (zi 2)] [] (zp_M s, n) = _
    rw [e_R_takeCounty_18, if_neg (by decide)]
theorem zs_take43 {d : Nat} : ∃ P', zk_sf (d + 1) m_R_takeCounty 43 [.ref 269, .int 0] [] (zp_M P, n) = zk_sf (d + 1) m_R_takeCounty 69 [.ref 269, .int 0] [] (zp_M P', n) ∧ yF [] [284] P P' ∧ ∀ i, i < 18 → P'.2.1 284 i = P.2.1 281 i := by
  refine zl_ind (m := 18) (L := fun i (s : zp) => zk_sf (d + 1) m_R_takeCounty 43 [.ref 269, .int (zi i)] [] (zp_M s, n)) (I := fun i s => yF [] [284] P s ∧ ∀ y, y < i → s.2.1 284 y = P.2.1 281 y) (Q := fun r => ∃ P', r = zk_sf (d + 1) m_R_takeCounty 69 [.ref 269, .int 0] [] (zp_M P', n) ∧ yF [] [284] P P' ∧ ∀ i, i < 18 → P'.2.1 284 i = P.2.1 281 i) (fun i s hi hI => Or.inr ?_) (fun s hI => ⟨s, ?_, hI⟩) (a := P) ⟨yF_r, fun y hy => absurd hy (Nat.not_lt_zero y)⟩
  · obtain ⟨f, h⟩ := hI
    refine ⟨zp_sA s 284 i (P.2.1 281 i), ?_, yF_t f (yF_A (by decide)), fun y hy => ?_⟩
    · show zk_sf (d + 1) m_R_takeCounty 43 [.ref 269, .int (zi i)] [] (zp_M s, n) = _
      rw [e_R_takeCounty_43, if_pos (show zi i < 18 from (zi_l (m := 18) (by omega) (by decide)).mpr hi), zp_R23, Option.bind_some, zz_R18, Option.bind_some, zp_ldi zz_a281 hi (by decide), Option.bind_some, zp_sti zp_a284 hi (by decide), Option.bind_some, zi_s, f.2.1 281 (by decide)]
    · by_cases z : y = i
      · rw [z]; exact zp_a9
      · exact (zp_a8 z).trans (h y (by omega))
  · show zk_sf (d + 1) m_R_takeCounty 43 [.ref 269, .int (zi 18)] [] (zp_M s, n) = _
    rw [e_R_takeCounty_43, if_neg (by decide)]
theorem zs_take69 {d : Nat} : ∃ P', zk_sf (d + 1) m_R_takeCounty 69 [.ref 269, .int 0] [] (zp_M P, n) = zk_sf (d + 1) m_R_takeCounty 95 [.ref 269, .int 0] [] (zp_M P', n) ∧ yF [] [285] P P' ∧ ∀ i, i < 24 → P'.2.1 285 i = P.2.1 282 i := by
  refine zl_ind (m := 24) (L := fun i (s : zp) => zk_sf (d + 1) m_R_takeCounty 69 [.ref 269, .int (zi i)] [] (zp_M s, n)) (I := fun i s => yF [] [285] P s ∧ ∀ y, y < i → s.2.1 285 y = P.2.1 282 y) (Q := fun r => ∃ P', r = zk_sf (d + 1) m_R_takeCounty 95 [.ref 269, .int 0] [] (zp_M P', n) ∧ yF [] [285] P P' ∧ ∀ i, i < 24 → P'.2.1 285 i = P.2.1 282 i) (fun i s hi hI => Or.inr ?_) (fun s hI => ⟨s, ?_, hI⟩) (a := P) ⟨yF_r, fun y hy => absurd hy (Nat.not_lt_zero y)⟩
  · obtain ⟨f, h⟩ := hI
    refine ⟨zp_sA s 285 i (P.2.1 282 i), ?_, yF_t f (yF_A (by decide)), fun y hy => ?_⟩
    · show zk_sf (d + 1) m_R_takeCounty 69 [.ref 269, .int (zi i)] [] (zp_M s, n) = _
      rw [e_R_takeCounty_69, if_pos (show zi i < 24 from (zi_l (m := 24) (by omega) (by decide)).mpr hi), zq_R24, Option.bind_some, zz_R19, Option.bind_some, zp_ldi zz_a282 hi (by decide), Option.bind_some, zp_sti zq_a285 hi (by decide), Option.bind_some, zi_s, f.2.1 282 (by decide)]
    · by_cases z : y = i
      · rw [z]; exact zp_a9
      · exact (zp_a8 z).trans (h y (by omega))
  · show zk_sf (d + 1) m_R_takeCounty 69 [.ref 269, .int (zi 24)] [] (zp_M s, n) = _
    rw [e_R_takeCounty_69, if_neg (by decide)]
theorem zs_take95 {d nl : Nat} {L : Nat → Nat × Nat × Nat} {c0 : Int32} (hr : yTr P nl L c0) : ∃ P', zk_sf (d + 1) m_R_takeCounty 95 [.ref 269, .int 0] [] (zp_M P, n) = some (some (.int (P.1 269 25)), (zp_M P', n)) ∧ yF [(269, 46), (269, 34), (269, 50)] [286] P P' ∧ yR (P'.2.1 286) (ytd nl L c0) ∧ P'.2.1 286 40 = 0 ∧ P'.1 269 46 = 0 ∧ P'.1 269 34 = 0 ∧ P'.1 269 50 = 0 := by
  refine zl_ind (m := 221) (L := fun i (s : zp) => zk_sf (d + 1) m_R_takeCounty 95 [.ref 269, .int (zi i)] [] (zp_M s, n)) (I := fun i s => yF [] [286] P s ∧ ∀ y, y < i → s.2.1 286 y = 0) (Q := fun r => ∃ P', r = some (some (.int (P.1 269 25)), (zp_M P', n)) ∧ yF [(269, 46), (269, 34), (269, 50)] [286] P P' ∧ yR (P'.2.1 286) (ytd nl L c0) ∧ P'.2.1 286 40 = 0 ∧ P'.1 269 46 = 0 ∧ P'.1 269 34 = 0 ∧ P'.1 269 50 = 0) (fun i s hi hI => Or.inr ?_) (fun s hI => ?_) (a := P) ⟨yF_r, fun y hy => absurd hy (Nat.not_lt_zero y)⟩
  · obtain ⟨f, h⟩ := hI
    refine ⟨zp_sA s 286 i 0, ?_, yF_t f (yF_A (by decide)), fun y hy => ?_⟩
    · show zk_sf (d + 1) m_R_takeCounty 95 [.ref 269, .int (zi i)] [] (zp_M s, n) = _
      rw [e_R_takeCounty_95, if_pos (show zi i < 221 from (zi_l (m := 221) (by omega) (by decide)).mpr hi), zp_R27, Option.bind_some, zp_sti zp_a286 hi (by decide), Option.bind_some, zi_s]
    · by_cases z : y = i
      · rw [z]; exact zp_a9
      · exact (zp_a8 z).trans (h y (by omega))
  · obtain ⟨f, h⟩ := hI
    show ∃ P', zk_sf (d + 1) m_R_takeCounty 95 [.ref 269, .int (zi 221)] [] (zp_M s, n) = _ ∧ _
    obtain ⟨r1, r2, r3, r4⟩ := hr
    obtain ⟨Q, e1, x1, g, k⟩ := zs_RlayTold (d := d) (n := n) (P := s) (nl := nl) (L := L) (c0 := c0) ⟨(f.1 269 26 (by decide)).trans r1, r2, fun l hl => by rw [f.2.1 285 (by decide)]; exact r3 l hl, by rw [f.2.1 283 (by decide)]; exact r4⟩
    have F : yF [(269, 46), (269, 34), (269, 50)] [286] P Q := yF_t (yF_m f (fun _ h => by cases h) (fun _ h => h)) (yF_m g (fun _ h => by cases h) (fun _ h => h))
    refine ⟨zp_sF (zp_sF (zp_sF Q 269 46 0) 269 34 0) 269 50 0, ?_, yF_t F (yF_t (yF_t (yF_f (by decide)) (yF_f (by decide))) (yF_f (by decide))), x1, (k 40 (by decide)).trans (h 40 (by decide)), rfl, rfl, rfl⟩
    rw [e_R_takeCounty_95, if_neg (by decide), zp_Rv, Option.bind_some, e1, zs_cV, Option.bind_some, zp_R46p, Option.bind_some, zp_R34p, Option.bind_some, zp_R50p (Or.inl rfl), Option.bind_some, zp_R25, Option.bind_some, show (zp_sF (zp_sF (zp_sF Q 269 46 0) 269 34 0) 269 50 0).1 269 25 = P.1 269 25 from F.1 269 25 (by decide)]
theorem zs_Rtake {D : yD} {d : Nat} (hv : yDv D) (hD : yDq P D) : ∃ P', zk_sm (d + 1) m_R_takeCounty [.ref 269] (zp_M P, n) = some (some (.int (zi D.2.1.1)), (zp_M P', n)) ∧ yF [(269, 25), (269, 26), (269, 46), (269, 34), (269, 50)] [283, 284, 285, 286] P P' ∧ P'.1 269 25 = zi D.2.1.1 ∧ yTr P' D.2.2.1 D.2.2.2 D.1.2.1 ∧ P'.2.1 283 0 = zi D.1.1 ∧ (∀ p, p < D.2.1.1 → P'.2.1 284 (3 * p + 0) = D.2.1.2 0 p ∧ P'.2.1 284 (3 * p + 1) = D.2.1.2 1 p ∧ P'.2.1 284 (3 * p + 2) = D.2.1.2 2 p) ∧ yR (P'.2.1 286) (ytd D.2.2.1 D.2.2.2 D.1.2.1) ∧ P'.2.1 286 40 = 0 ∧ P'.1 269 46 = 0 ∧ P'.1 269 34 = 0 ∧ P'.1 269 50 = 0 := by
  obtain ⟨v1, v2, v3, v4⟩ := hv
  obtain ⟨d1, d2, d3, d4, d6, d7⟩ := hD
  obtain ⟨P1, hP1⟩ : ∃ P1, P1 = zp_sF (zp_sF P 269 25 (zi D.2.1.1)) 269 26 (zi D.2.2.1) := ⟨_, rfl⟩
  have f1 : yF [(269, 25), (269, 26)] [] P P1 := by rw [hP1]; exact yF_t (yF_f (by decide)) (yF_f (by decide))
  obtain ⟨P2, e2, f2, x2⟩ := zs_take18 (P := P1) (n := n) (d := d)
  obtain ⟨P3, e3, f3, x3⟩ := zs_take43 (P := P2) (n := n) (d := d)
  obtain ⟨P4, e4, f4, x4⟩ := zs_take69 (P := P3) (n := n) (d := d)
  have w25 : P4.1 269 25 = zi D.2.1.1 := by rw [f4.1 269 25 (by decide), f3.1 269 25 (by decide), f2.1 269 25 (by decide), hP1]; rfl
  have w26 : P4.1 269 26 = zi D.2.2.1 := by rw [f4.1 269 26 (by decide), f3.1 269 26 (by decide), f2.1 269 26 (by decide), hP1]; rfl
  have r283 : ∀ i, i < 2 → P4.2.1 283 i = P.2.1 280 i := fun i hi => by rw [f4.2.1 283 (by decide), f3.2.1 283 (by decide), x2 i hi, f1.2.1 280 (by decide)]
  have r284 : ∀ i, i < 18 → P4.2.1 284 i = P.2.1 281 i := fun i hi => by rw [f4.2.1 284 (by decide), x3 i hi, f2.2.1 281 (by decide), f1.2.1 281 (by decide)]
  have r285 : ∀ i, i < 24 → P4.2.1 285 i = P.2.1 282 i := fun i hi => by rw [x4 i hi, f3.2.1 282 (by decide), f2.2.1 282 (by decide), f1.2.1 282 (by decide)]
  have hr : yTr P4 D.2.2.1 D.2.2.2 D.1.2.1 := ⟨w26, v3, fun l hl => by
    rw [r285 _ (by omega), r285 _ (by omega), r285 _ (by omega)]; exact d7 l hl, by rw [r283 1 (by decide)]; exact d2⟩
  obtain ⟨P5, e5, f5, y1, y2, y3, y4, y5⟩ := zs_take95 (n := n) (d := d) hr
  obtain ⟨h1, h2, h3, h4⟩ := hr
  have m : ∀ {A C : zp} {k : Nat}, k ∈ [283, 284, 285, 286] → yF [] [k] A C → yF [(269, 25), (269, 26), (269, 46), (269, 34), (269, 50)] [283, 284, 285, 286] A C := fun hk f => yF_m f (fun _ h => by cases h) (fun x hx => by rw [List.mem_singleton.mp hx]; exact hk)
  refine ⟨P5, ?_, yF_t (yF_m f1 (fun x hx => by simp only [List.mem_cons, List.not_mem_nil, or_false] at hx; rcases hx with rfl | rfl <;> decide) (fun _ h => by cases h)) (yF_t (m (by decide) f2) (yF_t (m (by decide) f3) (yF_t (m (by decide) f4) (yF_m f5 (fun x hx => by simp only [List.mem_cons, List.not_mem_nil, or_false] at hx; rcases hx with rfl | rfl | rfl <;> decide) (fun x hx => by rw [List.mem_singleton.mp hx]; decide))))), (f5.1 269 25 (by decide)).trans w25, ⟨(f5.1 269 26 (by decide)).trans h1, h2, fun l hl => by rw [f5.2.1 285 (by decide)]; exact h3 l hl, by rw [f5.2.1 283 (by decide)]; exact h4⟩, ?_, fun p hp => ?_, y1, y2, y3, y4, y5⟩
  · rw [e_R_takeCounty, zz_R20, Option.bind_some, d3, zz_R25p, Option.bind_some, zz_R21, Option.bind_some, show (zp_sF P 269 25 (zi D.2.1.1)).1 269 21 = zi D.2.2.1 from d4, zz_R26p, Option.bind_some, ← hP1, e2, e3, e4, e5, w25]
  · rw [f5.2.1 283 (by decide), r283 0 (by decide)]; exact d1
  · rw [f5.2.1 284 (by decide), r284 _ (by omega), r284 _ (by omega), r284 _ (by omega)]; exact d6 p hp
end
