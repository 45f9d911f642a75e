/-! PARSING 20: counties: a saddle -/
section
variable {n : Nat × Nat} {L len m : Nat} {xs : Nat → Int32} {B : Nat → Nat}
set_option maxHeartbeats 1000000 in
theorem yZ_l {D : yD} (hB : ∀ i, i < len → 1 ≤ B i ∧ B i < 256) (h240 : len ≤ 240) (hv : yDv D) (hm : m ≤ len) (hc : yhb B len (ysk B len m) = 108) (ht : D.2.2.1 < 8) : ∃ o, yZc n L xs B len D m o := by
  have sg := @ysk_ge B len m
  have hlt : ysk B len m < len := yhb_n (c := 108) (by decide) hc (by decide)
  obtain ⟨v1, v2, v3, v4⟩ := hv
  obtain ⟨np, hnp⟩ : ∃ np, np = D.2.2.1 := ⟨_, rfl⟩
  rw [← hnp] at ht
  obtain ⟨o1, ⟨o2, o3⟩, oC, oR⟩ := yR_bi (n := n) (L := L) (xs := xs) (to := 282) (fr := 3 * np) (tm := 24) hB h240 yK_3 (Or.inr (Or.inr ⟨rfl, rfl⟩)) zz_a282 (by decide) (show 3 * np + 3 ≤ 24 by omega) (by decide) hlt
  have bd : ∀ w, o1.2 = some w → (w 0 = zi (zn (w 0)) ∧ zn (w 0) ≤ 5) ∧ (w 1 = zi (zn (w 1)) ∧ zn (w 1) ≤ 5) ∧ w 2 = zi (zn (w 2)) ∧ zn (w 2) ≤ 9 := by
    intro w hw
    obtain ⟨-, -, c⟩ := o3 w hw
    obtain ⟨x0, y0, z0⟩ := yZ_v (c := 0) (b := 5) rfl (by decide) rfl (by decide) (c 0 (by decide))
    obtain ⟨x1, y1, z1⟩ := yZ_v (c := 1) (b := 5) rfl (by decide) rfl (by decide) (c 1 (by decide))
    obtain ⟨x2, y2, z2⟩ := yZ_v (c := 5) (b := 9) rfl (by decide) rfl (by decide) (c 2 (by decide))
    exact ⟨zn_i y0 (by decide) z0, zn_i y1 (by decide) z1, zn_i y2 (by decide) z2⟩
  refine ⟨(o1.1, o1.2.map fun w => (D.1, D.2.1, (np + 1, fun l => if l = np then (zn (w 0), zn (w 1), zn (w 2)) else D.2.2.2 l))), ⟨o2, fun D' hD' => ?_⟩, fun P e he hT hmk hE hD => ?_, fun Q e v3 he hT hmk hw hD => ?_⟩
  · cases ho : o1.2 with
    | none => rw [ho] at hD'; cases hD'
    | some w =>
      rw [ho] at hD'
      cases hD'
      obtain ⟨a, b, c⟩ := o3 w ho
      refine ⟨by show m < o1.1; omega, b, v1, v2, by show np + 1 ≤ 8; omega, fun l hl => ?_⟩
      have hl : l < np + 1 := hl
      show (if l = np then (zn (w 0), zn (w 1), zn (w 2)) else D.2.2.2 l).1 ≤ 5 ∧ (if l = np then (zn (w 0), zn (w 1), zn (w 2)) else D.2.2.2 l).2.1 ≤ 5 ∧ (if l = np then (zn (w 0), zn (w 1), zn (w 2)) else D.2.2.2 l).2.2 ≤ 9
      by_cases z : l = np
      · rw [if_pos z]
        obtain ⟨x, y, z⟩ := bd w ho
        exact ⟨x.2, y.2, z.2⟩
      · rw [if_neg z]; exact v4 l (by omega)
  · obtain ⟨e, rfl⟩ : ∃ e', e = e' + 2 := ⟨e - 2, by omega⟩
    obtain ⟨P1, e1, g1, f1⟩ := zs_sign (d := e + 1) (n := n) hT hmk hm
    have D1 := yDp_F (by decide) (by decide) f1 hD
    obtain ⟨P2, P3, eb, ei, F3, g3, E3, X3⟩ := oC P1 e (by omega) (yTp_F (by decide) (by decide) f1 hT) g1 (zk_sm_k e1 hE)
    have D3 := yDp_F (by decide) (by decide) F3 D1
    have hs := e_CountyReader_readsSaddle e 15 (zp_M P1, n)
    rw [zp_Zv, Option.bind_some, show zk_sm e m_CountyReader_begin [.ref 15, .int 0, .int 1, .int 5] (zp_M P1, n) = _ from eb, zs_cV, Option.bind_some, zp_Zv, Option.bind_some, ei, zs_cI, Option.bind_some] at hs
    have hr : ∀ {v : Int32} {s : zk_S}, zk_sm (e + 1) m_CountyReader_readsSaddle [.ref 15] (zp_M P1, n) = some (some (.int v), s) → zk_sm (e + 2) m_CountyReader_readsClause [.ref 15] (zp_M P, n) = if v = 0 then some (some (.int 0), s) else some (some (.int 1), s) := by
      intro v s h
      rw [e_CountyReader_readsClause, zp_Z1, Option.bind_some, zp_Pv', Option.bind_some, e1, zs_cI, Option.bind_some, hc, if_pos rfl, zp_Z0, Option.bind_some, zz_T3, Option.bind_some, D1.2.2.2.2.1, ← hnp, if_pos (show zi np < 8 from (zi_l (m := 8) (by omega) (by decide)).mpr ht), zp_Zv, Option.bind_some, h, zs_cI, Option.bind_some]
    cases ho : o1.2 with
    | none =>
      rw [show yobi o1 = 0 by unfold yobi; rw [ho], if_pos rfl] at hs
      exact ⟨P3, (hr hs).trans (if_pos rfl), yF_t (yF_Z1 f1) (yF_Z2 F3), g3, E3, fun D' hD' => by cases hD'⟩
    | some w =>
      have row := X3 w ho
      obtain ⟨d1, d2, d3, d4, d5, d6, d7⟩ := D3
      rw [← hnp] at d5 d7
      obtain ⟨S1, hS1⟩ : ∃ S1, S1 = zp_sA P3 20 np (w 0) := ⟨_, rfl⟩
      obtain ⟨S2, hS2⟩ : ∃ S2, S2 = zp_sA S1 21 np (w 1) := ⟨_, rfl⟩
      obtain ⟨S3, hS3⟩ : ∃ S3, S3 = zp_sA S2 22 np (w 2) := ⟨_, rfl⟩
      have k1 : S1.1 16 3 = zi np := by rw [hS1]; exact d5
      have k2 : S2.1 16 3 = zi np := by rw [hS2]; exact k1
      have k3 : S3.1 16 3 = zi np := by rw [hS3]; exact k2
      have r1 : S1.2.1 23 1 = w 1 := by rw [hS1, zp_a7 (by decide)]; exact row 1 (by decide)
      have r2 : S2.2.1 23 2 = w 2 := by rw [hS2, zp_a7 (by decide), hS1, zp_a7 (by decide)]; exact row 2 (by decide)
      rw [show yobi o1 = 1 by unfold yobi; rw [ho], if_neg zi_1n, zp_Z0, Option.bind_some, zz_T7, Option.bind_some, Option.bind_some, zz_T3, Option.bind_some, d5, zp_Z2, Option.bind_some, show zk_sm e m_SaddlerKnows_at [.ref 23, .int 0] (zp_M P3, n) = _ from zs_at0 (i := 0) zp_a23 (by decide) (by decide), zs_cI, Option.bind_some, row 0 (by decide), zs_put0 zz_a20 ht (by decide), zs_cV, Option.bind_some, ← hS1, zp_Z0, Option.bind_some, zz_T8, Option.bind_some, Option.bind_some, zz_T3, Option.bind_some, k1, zp_Z2, Option.bind_some, show zk_sm e m_SaddlerKnows_at [.ref 23, .int 1] (zp_M S1, n) = _ from zs_at0 (i := 1) zp_a23 (by decide) (by decide), zs_cI, Option.bind_some, r1, zs_put0 zz_a21 ht (by decide), zs_cV, Option.bind_some, ← hS2, zp_Z0, Option.bind_some, zz_T9, Option.bind_some, Option.bind_some, zz_T3, Option.bind_some, k2, zp_Z2, Option.bind_some, show zk_sm e m_SaddlerKnows_at [.ref 23, .int 2] (zp_M S2, n) = _ from zs_at0 (i := 2) zp_a23 (by decide) (by decide), zs_cI, Option.bind_some, r2, zs_put0 zz_a22 ht (by decide), zs_cV, Option.bind_some, ← hS3, zp_Z0, Option.bind_some, zz_T3, Option.bind_some, k3, zi_s, zz_T3p, Option.bind_some] at hs
      have E4 := zk_sm_k (hr hs |>.trans (if_neg zi_1n)) hE
      have FF : yF yfZ ykZ P3 S3 := by rw [hS3, hS2, hS1]; exact yF_t (yF_t (yF_A (by decide)) (yF_A (by decide))) (yF_A (by decide))
      refine ⟨_, (hr hs).trans (if_neg zi_1n), yF_t (yF_t (yF_t (yF_Z1 f1) (yF_Z2 F3)) FF) (yF_f (by decide)), ?_, E4, fun D' hD' => ?_⟩
      · rw [zp_f8 (by decide), hS3, hS2, hS1]; exact g3
      · cases hD'
        have e0 : ∀ p, S3.2.1 20 p = (zp_sA P3 20 np (w 0)).2.1 20 p := fun p => by rw [hS3, zp_a7 (by decide), hS2, zp_a7 (by decide), hS1]
        have e1' : ∀ p, S3.2.1 21 p = (zp_sA S1 21 np (w 1)).2.1 21 p := fun p => by rw [hS3, zp_a7 (by decide), hS2]
        have o : ∀ k, k ≠ 20 → k ≠ 21 → k ≠ 22 → S3.2.1 k = P3.2.1 k := fun k x y z => by rw [hS3, zp_a7 z, hS2, zp_a7 y, hS1, zp_a7 x]
        refine ⟨?_, ?_, ?_, ?_, ?_, fun p hp => ?_, fun l hl => ?_⟩
        · rw [zp_f8 (by decide), hS3, hS2, hS1]; exact d1
        · rw [zp_f8 (by decide), hS3, hS2, hS1]; exact d2
        · rw [zp_f8 (by decide), hS3, hS2, hS1]; exact d3
        · rw [zp_f8 (by decide), hS3, hS2, hS1]; exact d4
        · exact zp_f9
        · show S3.2.1 17 p = _ ∧ S3.2.1 18 p = _ ∧ S3.2.1 19 p = _
          rw [o 17 (by decide) (by decide) (by decide), o 18 (by decide) (by decide) (by decide), o 19 (by decide) (by decide) (by decide)]
          exact d6 p hp
        · have hl : l < np + 1 := hl
          show S3.2.1 20 l = zi (if l = np then (zn (w 0), zn (w 1), zn (w 2)) else D.2.2.2 l).1 ∧ S3.2.1 21 l = zi (if l = np then (zn (w 0), zn (w 1), zn (w 2)) else D.2.2.2 l).2.1 ∧ S3.2.1 22 l = zi (if l = np then (zn (w 0), zn (w 1), zn (w 2)) else D.2.2.2 l).2.2
          rw [e0, e1', hS3]
          by_cases z : l = np
          · rw [if_pos z, z]
            obtain ⟨x, y, z⟩ := bd w ho
            exact ⟨zp_a9.trans x.1, zp_a9.trans y.1, zp_a9.trans z.1⟩
          · rw [if_neg z, zp_a8 z, zp_a8 z, zp_a8 z, hS2, zp_a7 (by decide), hS1, zp_a7 (by decide), zp_a7 (by decide)]
            exact d7 l (by omega)
  · obtain ⟨e, rfl⟩ : ∃ e', e = e' + 1 := ⟨e - 1, by omega⟩
    obtain ⟨Q1, e1, g1, f1⟩ := zs_Rlook (d := e) (n := n) hT hmk (by omega)
    obtain ⟨Q2, hQ2⟩ : ∃ Q2, Q2 = zp_sF Q1 269 3 (zi (ysk B len m + 1)) := ⟨_, rfl⟩
    have f2 : yF [(269, 3)] [] Q Q2 := by rw [hQ2]; exact yF_t f1 (yF_f (by decide))
    obtain ⟨Q3, e3, F3, K3, s3⟩ := oR Q2 (e + 1) (by omega) (yTq_F (by decide) (by decide) f2 hT) (by rw [hQ2]; exact zp_f9) ((f2.1 269 4 (by decide)).trans hw)
    obtain ⟨d1, d2, d3, d4, d5, d6⟩ := yDq_F (by decide) (by decide) f2 hD
    rw [← hnp] at d4 d6
    have hx1 : Q1.1 269 21 = zi np := by rw [hnp, f1.1 269 21 (by decide)]; exact hD.2.2.2.1
    have hx3 : Q3.1 269 21 = zi np := (F3.1 269 21 (by decide)).trans d4
    have fin : zk_sf (e + 1 + 1) m_R_readCounty 49 [.ref 269, .int (zp_b D.1.2.2), .int 1, v3] [] (zp_M Q, n) = zk_sf (e + 1 + 1) m_R_readCounty 214 [.ref 269, .int (zp_b D.1.2.2), .int 1, .int 108] [] (zp_M (zp_sF Q3 269 21 (zi (np + 1))), n) := by
      rw [e_R_readCounty_49, if_neg zi_1n, zp_R4', Option.bind_some, hw, if_pos rfl, zp_Rv, Option.bind_some, e1, zs_cI, Option.bind_some, hc, if_neg (show ¬ (108 : Int32) = 115 by decide), if_neg (show ¬ (108 : Int32) = 112 by decide), if_pos rfl, zz_R21, Option.bind_some, hx1, if_pos (show zi np < 8 from (zi_l (m := 8) (by omega) (by decide)).mpr ht), zp_R3', Option.bind_some, g1, zi_s, zp_R3p, Option.bind_some, ← hQ2, zz_R19, Option.bind_some, zz_R21, Option.bind_some, d4, zp_Rv, Option.bind_some, zi_3m, show zk_sm (e + 1) m_R_items [.ref 269, .int 108, .ref 282, .int (zi (3 * np)), .int 3] (zp_M Q2, n) = _ from e3, zs_cV, Option.bind_some, zz_R21, Option.bind_some, hx3, zi_s, zz_R21p, Option.bind_some]
    refine ⟨_, 108, zp_b D.1.2.2, fin, yF_t (yF_t (yF_Y1 f2) (yF_Y2 (by decide) F3)) (yF_f (by decide)), ?_⟩
    unfold yqi at s3
    unfold yqd
    cases ho : o1.2 with
    | none =>
      rw [ho] at s3
      show (zp_sF Q3 269 21 (zi (np + 1))).1 269 4 = _ ∨ _
      rw [zp_f8 (by decide), zp_f8 (by decide)]; exact s3
    | some w =>
      rw [ho] at s3
      obtain ⟨a, b, c'⟩ := s3
      refine ⟨(zp_f8 (by decide)).trans a, (zp_f8 (by decide)).trans b, ⟨?_, ?_, ?_, ?_, fun p hp => ?_, fun l hl => ?_⟩, rfl⟩
      · show Q3.2.1 280 0 = _
        rw [F3.2.1 280 (by decide)]; exact d1
      · show Q3.2.1 280 1 = _
        rw [F3.2.1 280 (by decide)]; exact d2
      · rw [zp_f8 (by decide)]; exact (F3.1 269 20 (by decide)).trans d3
      · exact zp_f9
      · show Q3.2.1 281 (3 * p + 0) = _ ∧ Q3.2.1 281 (3 * p + 1) = _ ∧ Q3.2.1 281 (3 * p + 2) = _
        rw [F3.2.1 281 (by decide)]; exact d5 p hp
      · have hl : l < np + 1 := hl
        show Q3.2.1 282 (3 * l + 0) = zi (if l = np then (zn (w 0), zn (w 1), zn (w 2)) else D.2.2.2 l).1 ∧ Q3.2.1 282 (3 * l + 1) = zi (if l = np then (zn (w 0), zn (w 1), zn (w 2)) else D.2.2.2 l).2.1 ∧ Q3.2.1 282 (3 * l + 2) = zi (if l = np then (zn (w 0), zn (w 1), zn (w 2)) else D.2.2.2 l).2.2
        by_cases z : l = np
        · rw [if_pos z, z]
          obtain ⟨x, y, z⟩ := bd w ho
          exact ⟨(c' 0 (by decide)).trans x.1, (c' 1 (by decide)).trans y.1, (c' 2 (by decide)).trans z.1⟩
        · rw [if_neg z, K3 _ (Or.inl (by omega)), K3 _ (Or.inl (by omega)), K3 _ (Or.inl (by omega))]
          exact d6 l (by omega)
end
