/-! CALLS 2: saddle, best, end, rest, law -/
section
variable {P : zp} {n : Nat × Nat} {d : Nat}
theorem yc_saddle (hI : yI P n.1) {i w : Int32} : yOK (d + 20) P n m_SaddlerKnows_saddle m_R_saddle [.int i, .int w] := by
  obtain ⟨h0, T, V, nl, L, c0, hP⟩ := id hI
  have hT := hP.1.1
  have hR := hP.1.2.1
  have h6 := hT.2.1
  have hC := hP.2.1.1
  have hRr := hP.2.1.2.1
  have hO := hP.2.1.2.2.1
  cases h : yis V i with
  | false =>
    refine yOK_q (v := -1) (P1 := P) (P2 := P) ?_ ?_ hI
    · rw [e_SaddlerKnows_saddle, zp_C5, Option.bind_some, zp_sv zs_35, Option.bind_some, yg_sad zs_35 hC hO h6, h, zs_cI, Option.bind_some, zp_ib]; rfl
    · rw [e_R_saddle, zp_Rv, Option.bind_some, yg_Rthere hR hRr hO, h, zs_cI, Option.bind_some, zp_ib]; rfl
  | true =>
    obtain ⟨k, r, q, f, hk, rfl, hv⟩ := yis_o h
    obtain ⟨c1, c2, c3⟩ := yC_p hC hk hv
    obtain ⟨r1, r2, r3, r4⟩ := yR_p hRr hk hv
    cases h2 : yrg 4 w with
    | false =>
      have w0 : ¬ w = 0 := fun z => by rw [z, show yrg 4 0 = true by decide] at h2; cases h2
      have w1 : ¬ w = 1 := fun z => by rw [z, show yrg 4 1 = true by decide] at h2; cases h2
      have w2 : ¬ w = 2 := fun z => by rw [z, show yrg 4 2 = true by decide] at h2; cases h2
      have w3 : ¬ w = 3 := fun z => by rw [z, show yrg 4 3 = true by decide] at h2; cases h2
      refine yOK_q (v := -1) (P1 := P) (P2 := P) ?_ ?_ hI
      · rw [e_SaddlerKnows_saddle, zp_C5, Option.bind_some, zp_sv zs_35, Option.bind_some, yg_sad zs_35 hC hO h6, h, zs_cI, Option.bind_some, zp_ib, cond_true, if_neg w0, if_neg w1, if_neg w2, if_neg w3]
      · rw [e_R_saddle, zp_Rv, Option.bind_some, yg_Rthere hR hRr hO, h, zs_cI, Option.bind_some, zp_ib, cond_true, yg_Rin (m := 4) (by decide) (by decide) (by decide), h2, zs_cI, Option.bind_some, zp_ib]; rfl
    | true =>
      obtain ⟨j, hj, rfl⟩ := yrg_o h2
      have hj : j = 0 ∨ j = 1 ∨ j = 2 ∨ j = 3 := by omega
      rcases hj with rfl | rfl | rfl | rfl
      · refine yOK_q (v := zi r) (P1 := P) (P2 := P) ?_ ?_ hI
        · rw [e_SaddlerKnows_saddle, zp_C5, Option.bind_some, zp_sv zs_35, Option.bind_some, yg_sad zs_35 hC hO h6, h, zs_cI, Option.bind_some, zp_ib, cond_true, if_pos (by decide), zp_C5, Option.bind_some, zp_s0 zs_35, Option.bind_some, zs_at (zp_sb_t zs_35).2.1 (by decide), zs_cI, Option.bind_some, zp_gi hk (by decide), c1]
        · rw [e_R_saddle, zp_Rv, Option.bind_some, yg_Rthere hR hRr hO, h, zs_cI, Option.bind_some, zp_ib, cond_true, yg_Rin (m := 4) (by decide) (by decide) (by decide), h2, zs_cI, Option.bind_some, zp_ib, cond_true, if_neg (by decide), zp_Rv, Option.bind_some, zs_Rof (x := zi 0) (k := 0) (by omega) rfl, zs_cI, Option.bind_some, r1]
      · refine yOK_q (v := zi q) (P1 := P) (P2 := P) ?_ ?_ hI
        · rw [e_SaddlerKnows_saddle, zp_C5, Option.bind_some, zp_sv zs_35, Option.bind_some, yg_sad zs_35 hC hO h6, h, zs_cI, Option.bind_some, zp_ib, cond_true, if_neg (by decide), if_pos (by decide), zp_C5, Option.bind_some, zp_s1 zs_35, Option.bind_some, zs_at (zp_sb_t zs_35).2.2.1 (by decide), zs_cI, Option.bind_some, zp_gi hk (by decide), c2]
        · rw [e_R_saddle, zp_Rv, Option.bind_some, yg_Rthere hR hRr hO, h, zs_cI, Option.bind_some, zp_ib, cond_true, yg_Rin (m := 4) (by decide) (by decide) (by decide), h2, zs_cI, Option.bind_some, zp_ib, cond_true, if_neg (by decide), zp_Rv, Option.bind_some, zs_Rof (x := zi 1) (k := 1) (by omega) rfl, zs_cI, Option.bind_some, r2]
      · refine yOK_q (v := zi f) (P1 := P) (P2 := P) ?_ ?_ hI
        · rw [e_SaddlerKnows_saddle, zp_C5, Option.bind_some, zp_sv zs_35, Option.bind_some, yg_sad zs_35 hC hO h6, h, zs_cI, Option.bind_some, zp_ib, cond_true, if_neg (by decide), if_neg (by decide), if_pos (by decide), zp_C5, Option.bind_some, zp_s2 zs_35, Option.bind_some, zs_at (zp_sb_t zs_35).2.2.2.1 (by decide), zs_cI, Option.bind_some, zp_gi hk (by decide), c3]
        · rw [e_R_saddle, zp_Rv, Option.bind_some, yg_Rthere hR hRr hO, h, zs_cI, Option.bind_some, zp_ib, cond_true, yg_Rin (m := 4) (by decide) (by decide) (by decide), h2, zs_cI, Option.bind_some, zp_ib, cond_true, if_neg (by decide), zp_Rv, Option.bind_some, zs_Rof (x := zi 2) (k := 2) (by omega) rfl, zs_cI, Option.bind_some, r3]
      · obtain ⟨P1, e1, f1⟩ := zs_inPlace (d := d + 12) (n := n) zs_35 hT hC hO hk hv
        have hP1 := yP_F ySc_0 f1 hP
        obtain ⟨P2, e2, f2⟩ := zs_RpinchOf (d := d + 12) (n := n) hP1.1.2.1 hP1.2.1.2.1 hO hk hv
        refine yOK_q (v := yp T r q f (V.2.1 q) V.2.2.2) (P1 := P1) (P2 := P2) ?_ ?_ ⟨h0, T, V, nl, L, c0, yP_F ySc_r f2 hP1⟩
        · rw [e_SaddlerKnows_saddle, zp_C5, Option.bind_some, zp_sv zs_35, Option.bind_some, yg_sad zs_35 hC hO h6, h, zs_cI, Option.bind_some, zp_ib, cond_true, if_neg (by decide), if_neg (by decide), if_neg (by decide), if_pos (by decide), zp_C4, Option.bind_some, zp_C5, Option.bind_some, zp_Lv, Option.bind_some, e1, zs_cI, Option.bind_some]
        · rw [e_R_saddle, zp_Rv, Option.bind_some, yg_Rthere hP1.1.2.1 hP1.2.1.2.1 hO, h, zs_cI, Option.bind_some, zp_ib, cond_true, yg_Rin (m := 4) (by decide) (by decide) (by decide), h2, zs_cI, Option.bind_some, zp_ib, cond_true, if_pos (by decide), zp_Rv, Option.bind_some, e2, zs_cI, Option.bind_some]
theorem yc_best (hI : yI P n.1) {i w : Int32} : yOK (d + 20) P n m_SaddlerKnows_best m_R_best [.int i, .int w] := by
  obtain ⟨h0, T, V, nl, L, c0, hP⟩ := id hI
  have hT := hP.1.1
  have hR := hP.1.2.1
  have h6 := hT.2.1
  have hC := hP.2.1.1
  have hRr := hP.2.1.2.1
  have hO := hP.2.1.2.2.1
  have hw := hO.2
  cases h : yis V i with
  | false =>
    refine yOK_q (v := -1) (P1 := P) (P2 := P) ?_ ?_ hI
    · rw [e_SaddlerKnows_best, zp_C5, Option.bind_some, zp_sv zs_35, Option.bind_some, yg_sad zs_35 hC hO h6, h, zs_cI, Option.bind_some, zp_ib]; rfl
    · rw [e_R_best, zp_Rv, Option.bind_some, yg_Rthere hR hRr hO, h, zs_cI, Option.bind_some, zp_ib]; rfl
  | true =>
    obtain ⟨k, r, q, f, hk, rfl, hv⟩ := yis_o h
    obtain ⟨c1, c2, c3⟩ := yC_p hC hk hv
    obtain ⟨r1, r2, r3, r4⟩ := yR_p hRr hk hv
    obtain ⟨o1, o2, -, -⟩ := hO.1 k r q f hk hv
    obtain ⟨P1, e1, f1⟩ := zs_bestFit (d := d + 12) (n := n) zs_35 hT hC hO o1 o2
    have hP1 := yP_F ySc_0 f1 hP
    have hcl : zk_sm (d + 20) m_SaddlerKnows_best [.ref 12, .int (zi k), .int w] (zp_M P, n) = (if w = 0 then some (some (.int (zi (ybf T V r q))), (zp_M P1, n)) else if w = 1 then (zk_cI (zk_sm (d + 19) m_Pinches_wereIt [.ref 33, .ref 35, .int (zi r), .int (zi q), .int (zi (ybf T V r q))] (zp_M P1, n))).bind fun p14 => some (some (.int p14.1), p14.2) else some (some (.int (-1)), (zp_M P1, n))) := by
      rw [e_SaddlerKnows_best, zp_C5, Option.bind_some, zp_sv zs_35, Option.bind_some, yg_sad zs_35 hC hO h6, h, zs_cI, Option.bind_some, zp_ib, cond_true, zp_C5, Option.bind_some, zp_s0 zs_35, Option.bind_some, zs_at (zp_sb_t zs_35).2.1 (by decide), zs_cI, Option.bind_some, zp_C5, Option.bind_some, zp_s1 zs_35, Option.bind_some, zs_at (zp_sb_t zs_35).2.2.1 (by decide), zs_cI, Option.bind_some, zp_C4, Option.bind_some, zp_C5, Option.bind_some, zp_Lv, Option.bind_some, zp_gi hk (by decide), zp_gi hk (by decide), c1, c2, e1, zs_cI, Option.bind_some, zp_C4, Option.bind_some, zp_C5, Option.bind_some, zp_Lv, Option.bind_some]
    cases h2 : yrg 2 w with
    | false =>
      have w0 : ¬ w = 0 := fun z => by rw [z, show yrg 2 0 = true by decide] at h2; cases h2
      have w1 : ¬ w = 1 := fun z => by rw [z, show yrg 2 1 = true by decide] at h2; cases h2
      refine yOK_q (v := -1) (P1 := P1) (P2 := P1) ?_ ?_ ⟨h0, T, V, nl, L, c0, hP1⟩
      · rw [hcl, if_neg w0, if_neg w1]
      · rw [e_R_best, zp_Rv, Option.bind_some, yg_Rthere hP1.1.2.1 hP1.2.1.2.1 hO, h, zs_cI, Option.bind_some, zp_ib, cond_true, yg_Rin (m := 2) (by decide) (by decide) (by decide), h2, zs_cI, Option.bind_some, zp_ib]; rfl
    | true =>
      obtain ⟨j, hj, rfl⟩ := yrg_o h2
      have hj : j = 0 ∨ j = 1 := by omega
      rcases hj with rfl | rfl
      · obtain ⟨r1', r2', -, -⟩ := yR_p hP1.2.1.2.1 hk hv
        obtain ⟨P2, e2, f2⟩ := zs_RbestFit (d := d + 12) (n := n) hP1.1.2.1 hP1.2.1.2.1 (by omega) o1 o2
        refine yOK_q (P1 := P1) (P2 := P2) (v := zi (ybf T V r q)) ?_ ?_ ⟨h0, T, V, nl, L, c0, yP_F ySc_r f2 hP1⟩
        · rw [hcl, if_pos (by decide)]
        · rw [e_R_best, zp_Rv, Option.bind_some, yg_Rthere hP1.1.2.1 hP1.2.1.2.1 hO, h, zs_cI, Option.bind_some, zp_ib, cond_true, yg_Rin (m := 2) (by decide) (by decide) (by decide), h2, zs_cI, Option.bind_some, zp_ib, cond_true, zp_Rv, Option.bind_some, zs_Rof (x := 0) (k := 0) (by omega) rfl, zs_cI, Option.bind_some, zp_Rv, Option.bind_some, zs_Rof (x := 1) (k := 1) (by omega) rfl, zs_cI, Option.bind_some, zp_Rv, Option.bind_some, r1', r2', e2, zs_cI, Option.bind_some, if_pos (by decide)]
      · obtain ⟨P1', e1', f1'⟩ := zs_wereIt (d := d + 13) (n := n) (f := ybf T V r q) zs_35 hP1.1.1 hP1.2.1.1 hO o1 o2
        have hP1' := yP_F ySc_0 f1' hP1
        obtain ⟨r1', r2', -, -⟩ := yR_p hP1'.2.1.2.1 hk hv
        obtain ⟨P2, e2, f2⟩ := zs_RbestFit (d := d + 12) (n := n) hP1'.1.2.1 hP1'.2.1.2.1 (by omega) o1 o2
        have hP2 := yP_F ySc_r f2 hP1'
        obtain ⟨r1'', r2'', -, -⟩ := yR_p hP2.2.1.2.1 hk hv
        obtain ⟨P3, e3, f3⟩ := zs_RpinchBy (d := d + 13) (n := n) (f := ybf T V r q) hP2.1.2.1 hP2.2.1.2.1 (by omega) o1 o2
        refine yOK_q (v := yp T r q (ybf T V r q) (V.2.1 q) V.2.2.2) (P1 := P1') (P2 := P3) ?_ ?_ ⟨h0, T, V, nl, L, c0, yP_F ySc_r f3 hP2⟩
        · rw [hcl, if_neg (by decide), if_pos (by decide), e1', zs_cI, Option.bind_some]
        · rw [e_R_best, zp_Rv, Option.bind_some, yg_Rthere hP1'.1.2.1 hP1'.2.1.2.1 hO, h, zs_cI, Option.bind_some, zp_ib, cond_true, yg_Rin (m := 2) (by decide) (by decide) (by decide), h2, zs_cI, Option.bind_some, zp_ib, cond_true, zp_Rv, Option.bind_some, zs_Rof (x := 0) (k := 0) (by omega) rfl, zs_cI, Option.bind_some, zp_Rv, Option.bind_some, zs_Rof (x := 1) (k := 1) (by omega) rfl, zs_cI, Option.bind_some, zp_Rv, Option.bind_some, r1', r2', e2, zs_cI, Option.bind_some, if_neg (by decide), zp_Rv, Option.bind_some, zs_Rof (x := 0) (k := 0) (by omega) rfl, zs_cI, Option.bind_some, zp_Rv, Option.bind_some, zs_Rof (x := 1) (k := 1) (by omega) rfl, zs_cI, Option.bind_some, zp_Rv, Option.bind_some, r1'', r2'', e3, zs_cI, Option.bind_some]
/-- tape, rest and refusals changed alone: told and standing things stay -/
theorem yP_K {fs : List (Nat × Nat)} {ks : List Nat} {P P' : zp} {m : Nat} {T : yT} {V : yV} {nl : Nat} {L : Nat → Nat × Nat × Nat} {c0 : Int32} (hk : ∀ k, k ∈ yNJ → k ∉ ks) (hf : ∀ x, x ∈ yNF → x ∉ fs) (hk2 : ∀ k, k ∈ ks → (k < 36 ∨ k = 40 ∨ 42 ≤ k ∧ k < 49 ∨ 249 ≤ k) ∧ k ≠ 289 ∧ k ≠ 286) (hf2 : ∀ x, x ∈ fs → x ≠ (35, 4) ∧ x ≠ (35, 5) ∧ x ≠ (40, 5) ∧ x ≠ (40, 6) ∧ x ≠ (269, 34) ∧ (x.1 < 49 ∨ 249 ≤ x.1)) (h : yF fs ks P P') (hP : yP P m T V nl L c0) (hK : yK P') : yP P' m T V nl L c0 := ⟨yJ_F hk hf h hP.1, yA_F hk2 hf2 h hP.2.1, hK⟩
theorem yc_end (hI : yI P n.1) {i : Int32} : yOK (d + 20) P n m_SaddlerKnows_end m_R_end [.int i] := by
  obtain ⟨h0, T, V, nl, L, c0, hP⟩ := id hI
  obtain ⟨k1, k2, len, l1, l2, l3, l4⟩ := hP.2.2
  by_cases q : i < 0
  · refine yOK_q (v := 0) (P1 := P) (P2 := P) ?_ ?_ hI
    · rw [e_SaddlerKnows_end, if_pos q]
    · rw [e_R_end, if_pos q]
  · obtain ⟨k, hk, rfl⟩ := zi_r q
    by_cases q2 : zi len < zi k
    · refine yOK_q (v := 0) (P1 := P) (P2 := P) ?_ ?_ hI
      · rw [e_SaddlerKnows_end, if_neg q, zp_C0, Option.bind_some, zp_P0, Option.bind_some, l2, if_pos q2]
      · rw [e_R_end, if_neg q, zp_R2, Option.bind_some, l3, if_pos q2]
    · have hkl : k ≤ len := by
        by_cases z : k ≤ len
        · exact z
        · exact absurd ((zi_l (by omega) hk).mpr (by omega)) q2
      have f : yF [(13, 0), (269, 2)] [] P (zp_sF (zp_sF P 13 0 (zi k)) 269 2 (zi k)) := yF_t (yF_f (by decide)) (yF_f (by decide))
      refine yOK_q (v := 1) (P1 := zp_sF P 13 0 (zi k)) (P2 := zp_sF (zp_sF P 13 0 (zi k)) 269 2 (zi k)) ?_ ?_ ⟨h0, T, V, nl, L, c0, yP_K (by decide) (by decide) (by decide) (by decide) f hP ⟨k1, ?_, k, by omega, ?_, zp_f9, fun j hj => l4 j (by omega)⟩⟩
      · rw [e_SaddlerKnows_end, if_neg q, zp_C0, Option.bind_some, zp_P0, Option.bind_some, l2, if_neg q2, Option.bind_some, zp_P0p, Option.bind_some]
      · rw [e_R_end, if_neg q, zp_R2, Option.bind_some, show (zp_sF P 13 0 (zi k)).1 269 2 = zi len from (zp_f8 (by decide)).trans l3, if_neg q2, zp_R2p, Option.bind_some]
      · exact (f.1 12 11 (by decide)).trans (k2.trans (f.1 269 30 (by decide)).symm)
      · exact (zp_f8 (by decide)).trans zp_f9
end
