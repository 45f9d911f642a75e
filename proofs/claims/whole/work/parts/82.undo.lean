/-! CALLS 11: undo, image, back -/
def yun (A : yAA) : yAA := (A.1 - 1, (A.2.1 + 39) % 40, fun i => A.2.2 (i + 1))
section
variable {P : zp} {n : Nat × Nat} {d : Nat} {A : yAA} {T : yT}
theorem yAS_u {np : Nat} (hS : yAS np A) (h1 : 0 < A.1) : yAS np (yun A) := by
  obtain ⟨s1, s2, s3, s4⟩ := hS
  refine ⟨by show A.1 - 1 ≤ 40; omega, Nat.mod_lt _ (by decide), fun i hi => ?_, fun i hi => ?_⟩
  · have hi : i ≤ A.1 - 1 := hi
    exact s3 (i + 1) (by omega)
  · have hi : i < A.1 - 1 := hi
    exact s4 (i + 1) (by omega)
set_option maxHeartbeats 2000000 in
theorem zs_takeBack (hA : yAC P A) (h1 : 0 < A.1) (h2 : A.1 ≤ 40) (h3 : A.2.1 < 40) : ∃ P', zk_sm (d + 4) m_Past_takeBack [.ref 40, .ref 35] (zp_M P, n) = some (some (.int 1), (zp_M P', n)) ∧ yAC P' (yun A) ∧ yF yfA ykA P P' := by
  obtain ⟨c0, c1, c2, c3, c4, c5⟩ := hA
  have hs : (A.2.1 + 39) % 40 < 40 := Nat.mod_lt _ (by decide)
  have ci := c4 0 h1
  rw [Nat.sub_zero] at ci
  obtain ⟨y1, y2⟩ := yC_copy zs_35 (zs_sb hs) (by omega) ci
  have ei : (zi A.2.1 + 40 - 1) - (zi A.2.1 + 40 - 1) / 40 * 40 = zi ((A.2.1 + 39) % 40) := by
    rw [show zi A.2.1 + 40 = zi (A.2.1 + 40) from (Int32.ofNat_add _ 40).symm, zi_d (by omega), zi_md40 (by omega), show A.2.1 + 40 - 1 = A.2.1 + 39 by omega]
  have hg6 : (zq_copy P 35 (49 + 5 * ((A.2.1 + 39) % 40))).1 40 6 = zi A.1 := (y2.1 40 6 (by decide)).trans c1
  have f2 : yF yfA ykA P (zp_sF (zp_sF (zq_copy P 35 (49 + 5 * ((A.2.1 + 39) % 40))) 40 5 (zi ((A.2.1 + 39) % 40))) 40 6 (zi (A.1 - 1))) := yF_t (yF_35 y2) (yF_t (yF_f (yfA_40 (Or.inl rfl))) (yF_f (yfA_40 (Or.inr rfl))))
  have lift : ∀ b V, b ≠ 40 → yC (zq_copy P 35 (49 + 5 * ((A.2.1 + 39) % 40))) b V → yC (zp_sF (zp_sF (zq_copy P 35 (49 + 5 * ((A.2.1 + 39) % 40))) 40 5 (zi ((A.2.1 + 39) % 40))) 40 6 (zi (A.1 - 1))) b V := fun b V hb hk => ⟨hk.1, hk.2.1, (zp_f8 (by omega)).trans ((zp_f8 (by omega)).trans hk.2.2.1), (zp_f8 (by omega)).trans ((zp_f8 (by omega)).trans hk.2.2.2)⟩
  refine ⟨zp_sF (zp_sF (zq_copy P 35 (49 + 5 * ((A.2.1 + 39) % 40))) 40 5 (zi ((A.2.1 + 39) % 40))) 40 6 (zi (A.1 - 1)), ?_, ⟨by rw [f2.2.2.2.1]; exact c0, zp_f9, (zp_f8 (by decide)).trans zp_f9, lift 35 _ (by decide) y1, fun i hi => ?_, fun i hi => ?_⟩, f2⟩
  · rw [e_Past_takeBack, zp_S5, Option.bind_some, zp_Sv, Option.bind_some, c2, ei, zs_standAt c0 hs, zs_cR, Option.bind_some]
    show ((zk_gI (zp_M P, n) 40 3 6).bind fun x4 => if 0 < x4 then (zk_rv (zp_M P, n) 35 7).bind fun _ => _ else _) = _
    rw [zp_S6, Option.bind_some, c1, if_pos ((zi_0 (by omega)).mpr h1), zp_sv zs_35, Option.bind_some, zs_copy zs_35 (zs_sb hs), zs_cV, Option.bind_some, zp_S5p, Option.bind_some, zp_S6, Option.bind_some, show (zp_sF (zq_copy P 35 (49 + 5 * ((A.2.1 + 39) % 40))) 40 5 (zi ((A.2.1 + 39) % 40))).1 40 6 = zi A.1 from (zp_f8 (by decide)).trans hg6, zi_d h1, zp_S6p, Option.bind_some]
  · have hi : i < A.1 - 1 := hi
    show yC _ (49 + 5 * (((A.2.1 + 39) % 40 + 39 - i) % 40)) (A.2.2 (i + 1 + 1)).1
    rw [show ((A.2.1 + 39) % 40 + 39 - i) % 40 = (A.2.1 + 39 - (i + 1)) % 40 by omega]
    have hk := c4 (i + 1) (by omega)
    have hs' : (A.2.1 + 39 - (i + 1)) % 40 < 40 := Nat.mod_lt _ (by decide)
    exact lift _ _ (by omega) (yC_F (fun j j0 j5 z => by simp only [List.mem_cons, List.not_mem_nil, or_false] at z; omega) (by simp; omega) (by simp; omega) y2 hk)
  · have hi : i ≤ A.1 - 1 := hi
    have e41 : (zp_sF (zp_sF (zq_copy P 35 (49 + 5 * ((A.2.1 + 39) % 40))) 40 5 (zi ((A.2.1 + 39) % 40))) 40 6 (zi (A.1 - 1))).2.1 41 = P.2.1 41 := y2.2.1 41 (by decide)
    rw [e41]
    exact c5 (i + 1) (by omega)
theorem zs_takeBack0 (hA : yAC P A) (h1 : A.1 = 0) (h3 : A.2.1 < 40) : zk_sm (d + 4) m_Past_takeBack [.ref 40, .ref 35] (zp_M P, n) = some (some (.int 0), (zp_M P, n)) := by
  obtain ⟨c0, c1, c2, c3, c4, c5⟩ := hA
  have hs : (A.2.1 + 39) % 40 < 40 := Nat.mod_lt _ (by decide)
  have ei : (zi A.2.1 + 40 - 1) - (zi A.2.1 + 40 - 1) / 40 * 40 = zi ((A.2.1 + 39) % 40) := by
    rw [show zi A.2.1 + 40 = zi (A.2.1 + 40) from (Int32.ofNat_add _ 40).symm, zi_d (by omega), zi_md40 (by omega), show A.2.1 + 40 - 1 = A.2.1 + 39 by omega]
  rw [e_Past_takeBack, zp_S5, Option.bind_some, zp_Sv, Option.bind_some, c2, ei, zs_standAt c0 hs, zs_cR, Option.bind_some]
  show ((zk_gI (zp_M P, n) 40 3 6).bind fun x4 => if 0 < x4 then (zk_rv (zp_M P, n) 35 7).bind fun _ => _ else _) = _
  rw [zp_S6, Option.bind_some, c1, h1, if_neg (by decide)]
/-- a row of 221 copied into 'now' -/
theorem zs_Rundo (hA : yAR P A) (h1 : 0 < A.1) (h2 : A.1 ≤ 40) : ∃ P', zk_sm d m_R_undo [.ref 269] (zp_M P, n) = some (some (.int (zi (A.1 - 1))), (zp_M P', n)) ∧ yAR P' (yun A) ∧ yF yfR ykR P P' := by
  obtain ⟨r1, r2, r3⟩ := hA
  rw [e_R_undo, zp_R34, Option.bind_some, r1, if_neg (show ¬ zi A.1 = 0 from fun z => by have := (zi_eq (b := 0) (by omega) (by decide)).mp z; omega), Option.bind_some, zi_d h1, zp_R34p, Option.bind_some]
  refine zl_ind (m := 221) (L := fun i (a : zp) => zk_sf d m_R_undo 21 [.ref 269, .int (zi i)] [] (zp_M a, n)) (I := fun i a => yF [] [286] (zp_sF P 269 34 (zi (A.1 - 1))) a ∧ ∀ j, j < i → a.2.1 286 j = P.2.1 289 (221 * (A.1 - 1) + j)) (Q := fun r => ∃ P', r = some (some (.int (zi (A.1 - 1))), (zp_M P', n)) ∧ yAR P' (yun A) ∧ yF yfR ykR P P') (fun i a hi hI => Or.inr ?_) (fun a hI => ?_) (a := zp_sF P 269 34 (zi (A.1 - 1))) ⟨yF_r, fun j hj => absurd hj (Nat.not_lt_zero j)⟩
  · obtain ⟨f, a1⟩ := hI
    have e34 : a.1 269 34 = zi (A.1 - 1) := (f.1 269 34 (by decide)).trans zp_f9
    have ei : 221 * zi (A.1 - 1) + zi i = zi (221 * (A.1 - 1) + i) := by
      show Int32.ofNat 221 * Int32.ofNat _ + Int32.ofNat i = _
      rw [← Int32.ofNat_mul, ← Int32.ofNat_add]
    have e289 : a.2.1 289 = P.2.1 289 := f.2.1 289 (by decide)
    refine ⟨zp_sA a 286 i (P.2.1 289 (221 * (A.1 - 1) + i)), ?_, yF_t f (yF_A (by decide)), fun j hj => ?_⟩
    · show zk_sf d m_R_undo 21 [.ref 269, .int (zi i)] [] (zp_M a, n) = _
      rw [e_R_undo_21, if_pos (show zi i < 221 from (zi_l (m := 221) (by omega) (by decide)).mpr hi), zp_R27, Option.bind_some, zp_R33, Option.bind_some, zp_R34, Option.bind_some, e34, ei, zp_ldi zp_a289 (show 221 * (A.1 - 1) + i < 8840 by omega) (by decide), Option.bind_some, zp_sti zp_a286 hi (by decide), Option.bind_some, zi_s, e289]
    · by_cases q : j = i
      · rw [q]; exact zp_a9
      · exact (zp_a8 q).trans (a1 j (by omega))
  · obtain ⟨f, a1⟩ := hI
    have e34 : a.1 269 34 = zi (A.1 - 1) := (f.1 269 34 (by decide)).trans zp_f9
    have fP : yF yfR ykR P a := yF_t (yF_f (by decide)) (yF_m f (fun _ h => by cases h) (fun k hk => by simp only [List.mem_cons, List.not_mem_nil, or_false] at hk ⊢; omega))
    obtain ⟨q1, q2, q3⟩ := r3 0 h1
    refine ⟨a, ?_, ⟨e34, ?_, fun i hi => ?_⟩, fP⟩
    · show zk_sf d m_R_undo 21 [.ref 269, .int (zi 221)] [] (zp_M a, n) = _
      rw [e_R_undo_21, if_neg (by decide), zp_R34, Option.bind_some, e34]
    · show yRg (a.2.1 286) (A.2.2 (0 + 1))
      have er : ∀ j, j < 221 → a.2.1 286 j = P.2.1 289 (221 * (A.1 - 1 - 0) + j) := fun j hj => a1 j hj
      exact ⟨yR_b (fun j hj => er j (by omega)) q1, (er 40 (by decide)).trans q2, fun j c hj hc => (er _ (by omega)).trans (q3 j c hj hc)⟩
    · have hi : i < A.1 - 1 := hi
      show yRg (fun j => a.2.1 289 (221 * (A.1 - 1 - 1 - i) + j)) (A.2.2 (i + 1 + 1))
      have e289 : a.2.1 289 = P.2.1 289 := f.2.1 289 (by decide)
      rw [e289, show A.1 - 1 - 1 - i = A.1 - 1 - (i + 1) by omega]
      exact r3 (i + 1) (by omega)
theorem yc_undo (hI : yI P n.1) : yOK (d + 20) P n m_SaddlerKnows_undo m_R_undo [] := by
  obtain ⟨h0, T, V, nl, L, c0, hP⟩ := id hI
  obtain ⟨A, a0, aC, aR, aS⟩ := yA_o hP.2.1
  by_cases q : 0 < A.1
  · obtain ⟨P1, e1, c1, f1⟩ := zs_takeBack (d := d + 15) (n := n) aC q aS.1 aS.2.1
    obtain ⟨P2, e2, r2, f2⟩ := zs_Rundo (d := d + 20) (n := n) (yAR_A f1 aR) q aS.1
    refine yOK_q (v := zi (A.1 - 1)) (P1 := P1) (P2 := P2) ?_ e2 (yI_acts h0 hP.1 hP.2.2 f1 c1 f2 r2 (yAS_u aS q))
    rw [e_SaddlerKnows_undo, zp_C6, Option.bind_some, zp_C5, Option.bind_some, zp_Sv, Option.bind_some, e1, zs_cI, Option.bind_some, if_neg zi_1n, zp_C6, Option.bind_some, zp_S6, Option.bind_some, c1.2.1]
    rfl
  · refine yOK_q (v := -1) (P1 := P) (P2 := P) ?_ ?_ hI
    · rw [e_SaddlerKnows_undo, zp_C6, Option.bind_some, zp_C5, Option.bind_some, zp_Sv, Option.bind_some, show zk_sm (d + 19) m_Past_takeBack [.ref 40, .ref 35] (zp_M P, n) = _ from zs_takeBack0 (d := d + 15) aC (by omega) aS.2.1, zs_cI, Option.bind_some, if_pos zi_0y]
    · rw [e_R_undo, zp_R34, Option.bind_some, aR.1, if_pos (show zi A.1 = 0 by rw [show A.1 = 0 by omega]; rfl)]
theorem yX_F {fs : List (Nat × Nat)} {ks : List Nat} {P P' : zp} {np nl : Nat} {L : Nat → Nat × Nat × Nat} {c0 : Int32} (hk : ∀ k, k ∈ [30, 31, 32, 283, 285] → k ∉ ks) (hf : ∀ x, x ∈ [(26, 0), (26, 1), (26, 3), (269, 26)] → x ∉ fs) (h : yF fs ks P P') (hX : yX P np nl L c0) : yX P' np nl L c0 := by
  obtain ⟨x1, x2, x3, x4, x5, x6, x7⟩ := hX
  refine ⟨(h.1 26 3 (hf _ (by decide))).trans x1, (h.1 269 26 (hf _ (by decide))).trans x2, x3, fun l hl => ?_, x5, (h.1 26 1 (hf _ (by decide))).trans x6, ?_⟩
  · rw [h.2.1 30 (hk _ (by decide)), h.2.1 31 (hk _ (by decide)), h.2.1 32 (hk _ (by decide)), h.2.1 285 (hk _ (by decide))]; exact x4 l hl
  · rw [h.2.1 283 (hk _ (by decide)), h.1 26 0 (hf _ (by decide))]; exact x7
theorem yN_F {fs : List (Nat × Nat)} {ks : List Nat} {P P' : zp} {np : Nat} (hk : ∀ k, k ∈ [255, 256, 257, 258, 292, 293, 294, 295] → k ∉ ks) (hf : ∀ x, x ∈ [(249, 9), (269, 46)] → x ∉ fs) (h : yF fs ks P P') (hN : yN P np) : yN P' np := by
  obtain ⟨nn, n1, n2, n3, n4⟩ := hN
  refine ⟨nn, n1, (h.1 249 9 (hf _ (by decide))).trans n2, (h.1 269 46 (hf _ (by decide))).trans n3, fun i hi => ?_⟩
  rw [h.2.1 255 (hk _ (by decide)), h.2.1 256 (hk _ (by decide)), h.2.1 257 (hk _ (by decide)), h.2.1 258 (hk _ (by decide)), h.2.1 292 (hk _ (by decide)), h.2.1 293 (hk _ (by decide)), h.2.1 294 (hk _ (by decide)), h.2.1 295 (hk _ (by decide))]
  exact n4 i hi
theorem yQ_F {fs : List (Nat × Nat)} {ks : List Nat} {P P' : zp} {m : Nat} (hk : ∀ k, k ∈ [271, 272, 274, 275, 276, 277] → k ∉ ks) (hf : ∀ x, x ∈ [(33, 2), (33, 3), (269, 13), (269, 29)] → x ∉ fs) (h : yF fs ks P P') (hQ : yQ P m) : yQ P' m := by
  obtain ⟨nw, q1, q2, q3, q4, q5, q6⟩ := hQ
  refine ⟨nw, q1, (h.1 33 2 (hf _ (by decide))).trans q2, (h.1 269 13 (hf _ (by decide))).trans q3, fun i hi => ?_, ?_, ?_⟩
  · obtain ⟨la, X, a1, a2, a3, a4, a5⟩ := q4 i hi
    exact ⟨la, X, by rw [h.2.2.2.1]; exact a1, a2, h.2.2.2.2 _ _ a3, yLR_e (fun k hk' => h.2.1 k (hk k hk')) a4, a5⟩
  · rw [h.1 33 3 (hf _ (by decide)), h.1 269 29 (hf _ (by decide))]; exact q5
  · rw [h.1 33 3 (hf _ (by decide))]; exact q6
theorem zp_S1 : zk_gR (zp_M P, n) 40 3 1 = some 42 := zp_gR (by decide +kernel)
theorem zp_S2 : zk_gR (zp_M P, n) 40 3 2 = some 43 := zp_gR (by decide +kernel)
theorem zp_S4 : zk_gI (zp_M P, n) 40 3 4 = some (P.1 40 4) := zp_gI (by decide +kernel)
theorem zp_S4p {x : Int32} (hx : x = 0 ∨ x = 1) : zk_pf (zp_M P, n) 40 3 4 (.int x) = some (zp_M (zp_sF P 40 4 x), n) := zp_pI (by decide +kernel)
theorem zp_a42 : zp_ad 42 = (0, 300) := by decide +kernel
theorem zp_a298 : zp_ad 298 = (0, 221) := by decide +kernel
theorem zp_R49 : zk_gR (zp_M P, n) 269 12 49 = some 298 := zp_gR (by decide +kernel)
theorem zp_R50 : zk_gI (zp_M P, n) 269 12 50 = some (P.1 269 50) := zp_gI (by decide +kernel)
theorem zp_R50p {x : Int32} (hx : x = 0 ∨ x = 1) : zk_pf (zp_M P, n) 269 12 50 (.int x) = some (zp_M (zp_sF P 269 50 x), n) := zp_pI (by decide +kernel)
theorem zs_43 : zp_sb 43 := Or.inl (Or.inr (Or.inl rfl))
theorem yLg_b {row row' ent ent' : Nat → Int32} {w : Nat} (h : yLg row ent w) (h1 : ∀ j, j < 221 → row' j = row j) (h2 : ∀ j, j < 300 → ent' j = ent j) : yLg row' ent' w := by
  obtain ⟨g1, g2⟩ := h
  refine ⟨(h1 40 (by decide)).trans g1, fun i c hi hc => ?_⟩
  rw [h1 _ (by omega), h2 _ (by omega)]
  exact g2 i c hi hc
theorem yc_image (hI : yI P n.1) : yOK (d + 20) P n m_SaddlerKnows_image m_R_image [] := by
  obtain ⟨h0, T, V, nl, L, c0, hP⟩ := id hI
  have hT := hP.1.1
  have hR := hP.1.2.1
  have h6 := hT.2.1
  have hC := hP.2.1.1
  have h5 : P.1 35 5 = zi V.2.2.2 := hC.2.2.2
  by_cases hp : 0 < T.1
  · obtain ⟨y1, y2⟩ := yC_copy zs_43 zs_35 (by decide) hC
    obtain ⟨x1, x2, x3, x4⟩ := @zq_cp_t (zq_copy P 43 35) 41 42 300 (by decide)
    obtain ⟨P1, hP1⟩ : ∃ P1, P1 = zp_sF (zq_cp (zq_copy P 43 35) 41 42 300) 40 4 1 := ⟨_, rfl⟩
    have f1 : yF [(40, 4), (43, 4), (43, 5)] [42, 44, 45, 46, 47] P P1 := by
      rw [hP1]
      exact yF_t (yF_m y2 (fun x hx => by simp only [List.mem_cons, List.not_mem_nil, or_false] at hx ⊢; exact Or.inr hx) (fun k hk => by simp only [List.mem_cons, List.not_mem_nil, or_false] at hk ⊢; omega)) (yF_t (yF_cp (by decide) (by decide)) (yF_f (by decide)))
    have hz : ∀ P' : zp, yTR P' T → ¬ P'.1 269 25 = 0 := fun P' h' z => by
      rw [h'.1] at z
      have := (zi_eq (b := 0) (by omega) (by decide)).mp z
      omega
    have hR1 : yTR P1 T := yTR_F (by decide) f1 hR
    have e42 : ∀ j, j < 300 → P1.2.1 42 j = P.2.1 41 j := fun j hj => by
      rw [hP1]
      show (zq_cp (zq_copy P 43 35) 41 42 300).2.1 42 j = _
      rw [x1 j, if_pos hj, y2.2.1 41 (by decide)]
    have y43 : yC P1 43 V := by
      rw [hP1]
      have := yC_F (fun j j0 j5 z => by simp only [List.mem_cons, List.not_mem_nil, or_false] at z; omega) (by decide) (by decide) (yF_cp (fs := []) (ks := [42]) (P := zq_copy P 43 35) (a := 41) (c := 42) (m := 300) (by decide) (by decide)) y1
      exact ⟨this.1, this.2.1, (zp_f8 (by decide)).trans this.2.2.1, (zp_f8 (by decide)).trans this.2.2.2⟩
    have hcl : zk_sm (d + 20) m_SaddlerKnows_image [.ref 12] (zp_M P, n) = some (some (.int (zi V.2.2.2)), (zp_M P1, n)) := by
      have e5 : P1.1 35 5 = zi V.2.2.2 := (f1.1 35 5 (by decide)).trans h5
      have et : zk_sm (d + 19) m_Past_takeImage [.ref 40, .ref 35] (zp_M P, n) = some (none, (zp_M P1, n)) := by
        rw [e_Past_takeImage, zp_S2, Option.bind_some, zp_sv zs_43, Option.bind_some, zs_copy zs_43 zs_35, zs_cV, Option.bind_some, zp_S0, Option.bind_some, zp_S1, Option.bind_some, zs_copyRow zp_a41 zp_a42 (by decide), zs_cV, Option.bind_some, zp_S4p (Or.inr rfl), Option.bind_some, ← hP1]
      rw [e_SaddlerKnows_image, zp_Cv, Option.bind_some, yg_cnt hT, zs_cI, Option.bind_some, zp_ib, decide_eq_true hp, cond_true, zp_C6, Option.bind_some, zp_C5, Option.bind_some, zp_Sv, Option.bind_some, et, zs_cV, Option.bind_some, zp_C5, Option.bind_some, zp_s5 zs_35, Option.bind_some, e5]
    have hrl : ∃ P2, zk_sm (d + 20) m_R_image [.ref 269] (zp_M P1, n) = some (some (.int (zi V.2.2.2)), (zp_M P2, n)) ∧ yF [(269, 50)] [298] P1 P2 ∧ P2.1 269 50 = 1 ∧ ∀ j, j < 221 → P2.2.1 298 j = P1.2.1 286 j := by
      rw [e_R_image, zp_R25, Option.bind_some, if_neg (hz P1 hR1)]
      refine zl_ind (m := 221) (L := fun i (a : zp) => zk_sf (d + 20) m_R_image 11 [.ref 269, .int (zi i)] [] (zp_M a, n)) (I := fun i a => yF [] [298] P1 a ∧ ∀ j, j < i → a.2.1 298 j = P1.2.1 286 j) (Q := fun r => ∃ P2, r = some (some (.int (zi V.2.2.2)), (zp_M P2, n)) ∧ yF [(269, 50)] [298] P1 P2 ∧ P2.1 269 50 = 1 ∧ ∀ j, j < 221 → P2.2.1 298 j = P1.2.1 286 j) (fun i a hi hI => Or.inr ?_) (fun a hI => ?_) (a := P1) ⟨yF_r, fun j hj => absurd hj (Nat.not_lt_zero j)⟩
      · obtain ⟨f, a1⟩ := hI
        refine ⟨zp_sA a 298 i (P1.2.1 286 i), ?_, yF_t f (yF_A (by decide)), fun j hj => ?_⟩
        · show zk_sf (d + 20) m_R_image 11 [.ref 269, .int (zi i)] [] (zp_M a, n) = _
          rw [e_R_image_11, if_pos (show zi i < 221 from (zi_l (m := 221) (by omega) (by decide)).mpr hi), zp_R49, Option.bind_some, zp_R27, Option.bind_some, zp_ldi zp_a286 hi (by decide), Option.bind_some, zp_sti zp_a298 hi (by decide), Option.bind_some, zi_s, f.2.1 286 (by decide)]
        · by_cases q : j = i
          · rw [q]; exact zp_a9
          · exact (zp_a8 q).trans (a1 j (by omega))
      · obtain ⟨f, a1⟩ := hI
        have r1 : yR (a.2.1 286) V := by rw [f.2.1 286 (by decide), f1.2.1 286 (by decide)]; exact hP.2.1.2.1
        refine ⟨zp_sF a 269 50 1, ?_, yF_t (yF_m f (fun _ h => by cases h) (fun _ h => h)) (yF_f (by decide)), zp_f9, a1⟩
        show zk_sf (d + 20) m_R_image 11 [.ref 269, .int (zi 221)] [] (zp_M a, n) = _
        rw [e_R_image_11, if_neg (by decide), zp_R50p (Or.inr rfl), Option.bind_some, zp_R27, Option.bind_some, zp_lit (i := 39) (y := 39) zp_a286 rfl (by decide) (by decide), Option.bind_some, show (zp_sF a 269 50 1).2.1 286 39 = zi V.2.2.2 from r1.2.2.2]
    obtain ⟨P2, e2, f2, i50, i298⟩ := hrl
    have f12 : yF [(40, 4), (43, 4), (43, 5), (269, 50)] [42, 44, 45, 46, 47, 298] P P2 := yF_t (yF_m f1 (fun x hx => by simp only [List.mem_cons, List.not_mem_nil, or_false] at hx ⊢; rcases hx with h | h | h <;> simp [h]) (fun k hk => by simp only [List.mem_cons, List.not_mem_nil, or_false] at hk ⊢; omega)) (yF_m f2 (fun x hx => by simp only [List.mem_cons, List.not_mem_nil, or_false] at hx ⊢; simp [hx]) (fun k hk => by simp only [List.mem_cons, List.not_mem_nil, or_false] at hk ⊢; omega))
    have er : ∀ j, j < 221 → P2.2.1 298 j = P.2.1 286 j := fun j hj => by rw [i298 j hj, f1.2.1 286 (by decide)]
    have e42' : ∀ j, j < 300 → P2.2.1 42 j = P.2.1 41 j := fun j hj => by rw [f2.2.1 42 (by decide), e42 j hj]
    refine yOK_q hcl e2 ⟨h0, T, V, nl, L, c0, ⟨yTC_F (by decide) (by decide) f12 hT, yTR_F (by decide) f12 hR, yX_F (by decide) (by decide) f12 hP.1.2.2.1, Or.inr ⟨?_, i50, hp, V, ?_, yR_b (fun j hj => er j (by omega)) hP.2.1.2.1, hP.2.1.2.2.1, hP.2.1.2.2.2.1, yLg_b hP.2.1.2.2.2.2.1 er e42'⟩, yN_F (by decide) (by decide) f12 hP.1.2.2.2.2.1, yQ_F (by decide) (by decide) f12 hP.1.2.2.2.2.2⟩, yA_F (by decide) (by decide) f12 hP.2.1, yK_F (by decide) (by decide) f12 hP.2.2⟩
    · rw [f2.1 40 4 (by decide), hP1]; exact zp_f9
    · exact yC_F (fun j j0 j5 z => by simp only [List.mem_cons, List.not_mem_nil, or_false] at z; omega) (by decide) (by decide) f2 y43
  · refine yOK_q (v := -1) (P1 := P) (P2 := P) ?_ ?_ hI
    · rw [e_SaddlerKnows_image, zp_Cv, Option.bind_some, yg_cnt hT, zs_cI, Option.bind_some, zp_ib, decide_eq_false hp]; rfl
    · rw [e_R_image, zp_R25, Option.bind_some, if_pos (by rw [hR.1, show T.1 = 0 by omega]; rfl)]
theorem yc_back (hI : yI P n.1) : yOK (d + 20) P n m_SaddlerKnows_back m_R_back [] := by
  obtain ⟨h0, T, V, nl, L, c0, hP⟩ := id hI
  have hT := hP.1.1
  have hR := hP.1.2.1
  rcases hP.1.2.2.2.1 with ⟨m1, m2⟩ | ⟨m1, m2, m3, I, m4, m5, m6, m7, m8⟩
  · refine yOK_q (v := -1) (P1 := P) (P2 := P) ?_ ?_ hI
    · rw [e_SaddlerKnows_back, zp_C6, Option.bind_some, zp_C5, Option.bind_some, zp_Sv, Option.bind_some, e_Past_goBack, zp_S4, Option.bind_some, if_pos m1, zs_cI, Option.bind_some, if_pos zi_0y]
    · rw [e_R_back, zp_R50, Option.bind_some, if_pos m2]
  · obtain ⟨y1, y2⟩ := yC_copy zs_35 zs_43 (by decide) m4
    obtain ⟨x1, x2, x3, x4⟩ := @zq_cp_t (zq_copy P 35 43) 42 41 300 (by decide)
    obtain ⟨P1, hP1⟩ : ∃ P1, P1 = zp_sF (zq_cp (zq_copy P 35 43) 42 41 300) 40 6 0 := ⟨_, rfl⟩
    have f1 : yF yfA ykA P P1 := by
      rw [hP1]
      exact yF_t (yF_35 y2) (yF_t (yF_cp (by decide) (ykA_m.mpr (by omega))) (yF_f (yfA_40 (Or.inr rfl))))
    have e41 : ∀ j, j < 300 → P1.2.1 41 j = P.2.1 42 j := fun j hj => by
      rw [hP1]
      show (zq_cp (zq_copy P 35 43) 42 41 300).2.1 41 j = _
      rw [x1 j, if_pos hj, y2.2.1 42 (by decide)]
    have y35 : yC P1 35 I := by
      rw [hP1]
      have := yC_F (fun j j0 j5 z => by simp only [List.mem_cons, List.not_mem_nil, or_false] at z; omega) (by decide) (by decide) (yF_cp (fs := []) (ks := [41]) (P := zq_copy P 35 43) (a := 42) (c := 41) (m := 300) (by decide) (by decide)) y1
      exact ⟨this.1, this.2.1, (zp_f8 (by decide)).trans this.2.2.1, (zp_f8 (by decide)).trans this.2.2.2⟩
    have hcl : zk_sm (d + 20) m_SaddlerKnows_back [.ref 12] (zp_M P, n) = some (some (.int (zi I.2.2.2)), (zp_M P1, n)) := by
      have et : zk_sm (d + 19) m_Past_goBack [.ref 40, .ref 35] (zp_M P, n) = some (some (.int 1), (zp_M P1, n)) := by
        rw [e_Past_goBack, zp_S4, Option.bind_some, m1, if_neg zi_1n, zp_S2, Option.bind_some, zp_sv zs_35, Option.bind_some, zs_copy zs_35 zs_43, zs_cV, Option.bind_some, zp_S1, Option.bind_some, zp_S0, Option.bind_some, zs_copyRow zp_a42 zp_a41 (by decide), zs_cV, Option.bind_some, zp_S6p, Option.bind_some, ← hP1]
      rw [e_SaddlerKnows_back, zp_C6, Option.bind_some, zp_C5, Option.bind_some, zp_Sv, Option.bind_some, et, zs_cI, Option.bind_some, if_neg zi_1n, zp_C5, Option.bind_some, zp_s5 zs_35, Option.bind_some, y35.2.2.2]
    have hJ1 := yJ_A f1 hP.1
    have i50 : P1.1 269 50 = 1 := (f1.1 269 50 (fun z => by rcases yfA_n z with z | z | z | z | z <;> first | (cases z; done) | (have h2 : 269 < 249 := z.2; omega))).trans m2
    have e298 : P1.2.1 298 = P.2.1 298 := f1.2.1 298 (fun z => by have := ykA_m.mp z; omega)
    have hrl : ∃ P2, zk_sm (d + 20) m_R_back [.ref 269] (zp_M P1, n) = some (some (.int (zi I.2.2.2)), (zp_M P2, n)) ∧ yF [(269, 34)] [286] P1 P2 ∧ P2.1 269 34 = 0 ∧ ∀ j, j < 221 → P2.2.1 286 j = P.2.1 298 j := by
      rw [e_R_back, zp_R50, Option.bind_some, i50, if_neg zi_1n]
      refine zl_ind (m := 221) (L := fun i (a : zp) => zk_sf (d + 20) m_R_back 11 [.ref 269, .int (zi i)] [] (zp_M a, n)) (I := fun i a => yF [] [286] P1 a ∧ ∀ j, j < i → a.2.1 286 j = P.2.1 298 j) (Q := fun r => ∃ P2, r = some (some (.int (zi I.2.2.2)), (zp_M P2, n)) ∧ yF [(269, 34)] [286] P1 P2 ∧ P2.1 269 34 = 0 ∧ ∀ j, j < 221 → P2.2.1 286 j = P.2.1 298 j) (fun i a hi hI => Or.inr ?_) (fun a hI => ?_) (a := P1) ⟨yF_r, fun j hj => absurd hj (Nat.not_lt_zero j)⟩
      · obtain ⟨f, a1⟩ := hI
        refine ⟨zp_sA a 286 i (P.2.1 298 i), ?_, yF_t f (yF_A (by decide)), fun j hj => ?_⟩
        · show zk_sf (d + 20) m_R_back 11 [.ref 269, .int (zi i)] [] (zp_M a, n) = _
          rw [e_R_back_11, if_pos (show zi i < 221 from (zi_l (m := 221) (by omega) (by decide)).mpr hi), zp_R27, Option.bind_some, zp_R49, Option.bind_some, zp_ldi zp_a298 hi (by decide), Option.bind_some, zp_sti zp_a286 hi (by decide), Option.bind_some, zi_s, f.2.1 298 (by decide), e298]
        · by_cases q : j = i
          · rw [q]; exact zp_a9
          · exact (zp_a8 q).trans (a1 j (by omega))
      · obtain ⟨f, a1⟩ := hI
        have e39 : a.2.1 286 39 = zi I.2.2.2 := (a1 39 (by decide)).trans m5.2.2.2
        refine ⟨zp_sF a 269 34 0, ?_, yF_t (yF_m f (fun _ h => by cases h) (fun _ h => h)) (yF_f (by decide)), zp_f9, a1⟩
        show zk_sf (d + 20) m_R_back 11 [.ref 269, .int (zi 221)] [] (zp_M a, n) = _
        rw [e_R_back_11, if_neg (by decide), zp_R34p, Option.bind_some, zp_R27, Option.bind_some, zp_lit (i := 39) (y := 39) zp_a286 rfl (by decide) (by decide), Option.bind_some, show (zp_sF a 269 34 0).2.1 286 39 = zi I.2.2.2 from e39]
    obtain ⟨P2, e2, f2, i34, i286⟩ := hrl
    have f2' : yF yfR ykR P1 P2 := yF_m f2 (fun x hx => List.mem_cons_of_mem _ hx) (fun k hk => by simp only [List.mem_cons, List.not_mem_nil, or_false] at hk ⊢; omega)
    obtain ⟨ur, na, nx, U, u0, u1, u2, u3, u4, u5, u6⟩ := hP.2.1.2.2.2.2.2
    refine yOK_q hcl e2 ⟨h0, T, I, nl, L, c0, yJ_R f2' hJ1, ⟨?_, yR_b (fun j hj => i286 j (by omega)) m5, m6, m7, yLg_b m8 i286 (fun j hj => by rw [f2.2.1 41 (by decide), e41 j hj]), ?_, 0, nx, fun _ => I, rfl, ?_, i34, by decide, ?_, u5, fun i hi => absurd hi (Nat.not_lt_zero i)⟩, yK_R f2' (yK_A f1 hP.2.2)⟩
    · exact yC_F (fun j j0 j5 z => by simp only [List.mem_cons, List.not_mem_nil, or_false] at z; omega) (by decide) (by decide) f2 y35
    · rw [f2.2.2.2.1, f1.2.2.2.1]; exact ur
    · rw [f2.1 40 6 (by decide), hP1]; exact zp_f9
    · rw [f2.1 40 5 (by decide), hP1]
      refine (zp_f8 (by decide)).trans ?_
      rw [x3, y2.1 40 5 (by decide)]
      exact u4
end
