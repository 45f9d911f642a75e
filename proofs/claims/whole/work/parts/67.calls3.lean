/-! CALLS 3: rest, log, count, shares, waiting -/
theorem zi_xor {a b : Int32} (ha : ¬ a < 0) (hb : ¬ b < 0) : ¬ (a ^^^ b) < 0 := by
  have key : ∀ x : Int32, x < 0 ↔ x.toBitVec.msb = true := fun x => by
    rw [Int32.lt_iff_toInt_lt, BitVec.msb_eq_toInt, decide_eq_true_eq]; rfl
  rw [key, Bool.not_eq_true] at ha hb
  rw [key, Int32.toBitVec_xor, BitVec.msb_xor, ha, hb]
  decide
theorem zs_fmod {d k : Nat} {s : zk_S} (h : k < 2 ^ 31) : zk_sm d m_Math_floorMod [.int (zi k), .int 100] s = some (some (.int (zi (k % 100))), s) := by
  rw [e_Math_floorMod, if_neg (by decide), if_neg (zi_xor (zi_n h) (by decide)), zi_mod h]
theorem zq_mi {a b : Nat} (ha : a < 2 ^ 31) (hb : b < 2 ^ 31) : zq_min (zi a) (zi b) = zi (min a b) := by
  unfold zq_min
  by_cases q : b < a
  · rw [if_pos ((zi_l hb ha).mpr q), Nat.min_eq_right (by omega)]
  · rw [if_neg (fun z => q ((zi_l hb ha).mp z)), Nat.min_eq_left (by omega)]
theorem yis_k {V : yV} {k : Nat} (hk : k < 8) : yis V (zi k) = yth V k := by rw [yis_e, yrg_i hk, Bool.true_and, zi_c (by omega)]
def ygs (V : yV) (m : Nat) : Int32 := (List.range m).foldl (fun a i => a + V.2.1 i) 0
theorem ygs_6 {np : Nat} {V : yV} (hB : yB np V) (h6 : np ≤ 6) : ygs V 6 = ygs V np := by
  have key : ∀ j, np + j ≤ 6 → ygs V (np + j) = ygs V np := by
    intro j
    induction j with
    | zero => exact fun _ => rfl
    | succ j ih =>
      intro h
      have e : ygs V (np + (j + 1)) = ygs V (np + j) + V.2.1 (np + j) := zl_rs
      rw [e, hB.2.1 (np + j) (by omega) (by omega), ih (by omega)]
      exact zi_p _
  have := key (6 - np) (by omega)
  rw [show np + (6 - np) = 6 by omega] at this
  exact this
theorem ygs_b {np : Nat} {V : yV} (hB : yB np V) : ∀ m, m ≤ 6 → 0 ≤ (ygs V m).toInt ∧ (ygs V m).toInt ≤ 99 * m := by
  intro m
  induction m with
  | zero => exact fun _ => ⟨(by decide : (0 : Int) ≤ (0 : Int32).toInt), (by decide : (0 : Int32).toInt ≤ 99 * ((0 : Nat) : Int))⟩
  | succ m ih =>
    intro h
    obtain ⟨i1, i2⟩ := ih (by omega)
    obtain ⟨b1, b2⟩ := hB.1 m (by omega)
    have e : ygs V (m + 1) = ygs V m + V.2.1 m := zl_rs
    have c1 : ¬ (V.2.1 m).toInt < 0 := fun z => b1 (Int32.lt_iff_toInt_lt.mpr z)
    have c2 : ¬ 99 < (V.2.1 m).toInt := fun z => b2 (Int32.lt_iff_toInt_lt.mpr z)
    have e2 : (ygs V m + V.2.1 m).toInt = (ygs V m).toInt + (V.2.1 m).toInt := by
      rw [Int32.toInt_add]
      rw [Int.bmod_def]
      omega
    rw [e, e2]
    constructor
    · omega
    · omega
section
variable {P : zp} {n : Nat × Nat} {d : Nat} {V : yV} {T : yT}
theorem yg_Rones (hT : yTR P T) (hR : yR (P.2.1 286) V) (hO : yO T.1 V) : zk_sm (d + 2) m_R_saddleOnes [.ref 269] (zp_M P, n) = some (some (.int (yns V)), (zp_M P, n)) := by
  rw [e_R_saddleOnes]
  refine zl_fold (L := fun i a => zk_sf (d + 2) m_R_saddleOnes 4 [.ref 269, .int a, .int (zi i)] [] (zp_M P, n)) (g := fun i a => bif yth V i then a ||| (1 <<< (zi i &&& 31)) else a) (fin := fun a => (some (.int a), (zp_M P, n))) (m := 8) (fun i a hi => ?_) (fun a => ?_) 0
  · show zk_sf (d + 2) m_R_saddleOnes 4 [.ref 269, .int a, .int (zi i)] [] (zp_M P, n) = _
    rw [e_R_saddleOnes_4, if_pos (zi_8 hi), zp_Rv, Option.bind_some, yg_Rthere hT hR hO, yis_k hi, zs_cI, Option.bind_some, zp_ib, zi_s, zi_o]
    cases yth V i <;> rfl
  · show zk_sf (d + 2) m_R_saddleOnes 4 [.ref 269, .int a, .int (zi 8)] [] (zp_M P, n) = _
    rw [e_R_saddleOnes_4, if_neg zi_8n]
theorem yg_Rgall (hT : yTR P T) (hR : yR (P.2.1 286) V) : zk_sm d m_R_allGall [.ref 269] (zp_M P, n) = some (some (.int (ygs V T.1)), (zp_M P, n)) := by
  have h6 := hT.2.1
  rw [e_R_allGall]
  refine zl_fold (L := fun i a => zk_sf d m_R_allGall 4 [.ref 269, .int a, .int (zi i)] [] (zp_M P, n)) (g := fun i a => a + V.2.1 i) (fin := fun a => (some (.int a), (zp_M P, n))) (m := T.1) (fun i a hi => ?_) (fun a => ?_) 0
  · show zk_sf d m_R_allGall 4 [.ref 269, .int a, .int (zi i)] [] (zp_M P, n) = _
    rw [e_R_allGall_4, zp_R25, Option.bind_some, hT.1, if_pos ((zi_l (by omega) (by omega)).mpr hi), zp_R27, Option.bind_some, zi_32, zp_ldi zp_a286 (show 32 + i < 221 by omega) (by decide), Option.bind_some, hR.2.1 i (by omega), zi_s]
  · show zk_sf d m_R_allGall 4 [.ref 269, .int a, .int (zi T.1)] [] (zp_M P, n) = _
    rw [e_R_allGall_4, zp_R25, Option.bind_some, hT.1, if_neg (fun z => absurd ((zi_l (by omega) (by omega)).mp z) (Nat.lt_irrefl _))]
theorem yg_gall {b : Nat} (h : zp_sb b) (hC : yC P b V) (hB : yB T.1 V) (h6 : T.1 ≤ 6) : zk_sm (d + 1) m_Stand_allGall [.ref b] (zp_M P, n) = some (some (.int (ygs V T.1)), (zp_M P, n)) := by
  have e : zq_gall P b = ygs V 6 := zl_fc (fun i a hi => by rw [hC.2.1 i hi]) 0
  rw [zs_allGall h, e, ygs_6 hB h6]
end
section
variable {P : zp} {n : Nat × Nat} {d : Nat}
theorem zp_C6 : zk_gR (zp_M P, n) 12 11 6 = some 40 := zp_gR (by decide +kernel)
theorem zp_C7 : zk_gR (zp_M P, n) 12 11 7 = some 249 := zp_gR (by decide +kernel)
theorem zp_S0 : zk_gR (zp_M P, n) 40 3 0 = some 41 := zp_gR (by decide +kernel)
theorem zp_Sv : zk_rv (zp_M P, n) 40 3 = some () := zp_rv (by decide +kernel)
theorem zp_a41 : zp_ad 41 = (0, 300) := by decide +kernel
theorem zp_L2 : zk_gI (zp_M P, n) 33 4 2 = some (P.1 33 2) := zp_gI (by decide +kernel)
theorem zp_S6 : zk_gI (zp_M P, n) 40 3 6 = some (P.1 40 6) := zp_gI (by decide +kernel)
theorem zp_N9 : zk_gI (zp_M P, n) 249 6 9 = some (P.1 249 9) := zp_gI (by decide +kernel)
theorem zp_R26 : zk_gI (zp_M P, n) 269 12 26 = some (P.1 269 26) := zp_gI (by decide +kernel)
theorem zp_R13 : zk_gI (zp_M P, n) 269 12 13 = some (P.1 269 13) := zp_gI (by decide +kernel)
theorem zp_R46 : zk_gI (zp_M P, n) 269 12 46 = some (P.1 269 46) := zp_gI (by decide +kernel)
theorem zp_R34 : zk_gI (zp_M P, n) 269 12 34 = some (P.1 269 34) := zp_gI (by decide +kernel)
theorem yc_rest (hI : yI P n.1) {i : Int32} : yOK (d + 20) P n m_SaddlerKnows_rest m_R_rest [.int i] := by
  obtain ⟨h0, T, V, nl, L, c0, hP⟩ := id hI
  obtain ⟨k1, k2, len, l1, l2, l3, l4⟩ := hP.2.2
  cases h : yrg 10 i with
  | false =>
    have h' := h
    rw [yrg_e (by decide)] at h'
    refine yOK_q (v := 0) (P1 := P) (P2 := P) ?_ ?_ hI
    · rw [e_SaddlerKnows_rest]
      by_cases q : i < 0
      · rw [if_pos q]
      · rw [decide_eq_false q] at h'
        obtain ⟨k, hk, rfl⟩ := zi_r q
        have : ¬ k < 10 := fun z => by rw [yrg_i z] at h; cases h
        rw [if_neg q, if_pos (show 9 < zi k from (zi_l (i := 9) (by decide) hk).mpr (by omega))]
    · rw [e_R_rest, yg_Rin (m := 10) (by decide) (by decide) (by decide), h, zs_cI, Option.bind_some, zp_ib]; rfl
  | true =>
    obtain ⟨k, hk, rfl⟩ := yrg_o h
    by_cases q : zi k = P.1 12 11
    · refine yOK_q (v := 0) (P1 := P) (P2 := P) ?_ ?_ hI
      · rw [e_SaddlerKnows_rest, if_neg (zi_n (by omega)), if_neg (zi_9 hk), zp_C11, Option.bind_some, if_pos q]
      · rw [e_R_rest, yg_Rin (m := 10) (by decide) (by decide) (by decide), h, zs_cI, Option.bind_some, zp_ib, cond_true, zp_R30, Option.bind_some, if_pos (q.trans k2)]
    · have f : yF [(12, 11), (269, 30)] [] P (zp_sF (zp_sF P 12 11 (zi k)) 269 30 (zi k)) := yF_t (yF_f (by decide)) (yF_f (by decide))
      refine yOK_q (v := 1) (P1 := zp_sF P 12 11 (zi k)) (P2 := zp_sF (zp_sF P 12 11 (zi k)) 269 30 (zi k)) ?_ ?_ ⟨h0, T, V, nl, L, c0, yP_K (by decide) (by decide) (by decide) (by decide) f hP ⟨k1, ?_, len, l1, (f.1 13 0 (by decide)).trans l2, (f.1 269 2 (by decide)).trans l3, l4⟩⟩
      · rw [e_SaddlerKnows_rest, if_neg (zi_n (by omega)), if_neg (zi_9 hk), zp_C11, Option.bind_some, if_neg q, zp_C11p, Option.bind_some]
      · rw [e_R_rest, yg_Rin (m := 10) (by decide) (by decide) (by decide), h, zs_cI, Option.bind_some, zp_ib, cond_true, zp_R30, Option.bind_some, if_neg (show ¬ zi k = (zp_sF P 12 11 (zi k)).1 269 30 from fun z => q (z.trans ((zp_f8 (by decide)).trans k2.symm))), zp_R30p, Option.bind_some]
      · exact ((zp_f8 (by decide)).trans zp_f9).trans zp_f9.symm
theorem yc_log (hI : yI P n.1) {i w : Int32} : yOK (d + 20) P n m_SaddlerKnows_log m_R_log [.int i, .int w] := by
  obtain ⟨h0, T, V, nl, L, c0, hP⟩ := id hI
  obtain ⟨g1, g2⟩ := hP.2.1.2.2.2.2.1
  have h5 : P.1 35 5 = zi V.2.2.2 := hP.2.1.1.2.2.2
  have hw := hP.2.1.2.2.2.1.2.2
  have e40 : zk_ldI (zp_M P, n) 286 40 = some (zi (min 60 V.2.2.2)) := (zp_lit (i := 40) (y := 40) zp_a286 rfl (by decide) (by decide)).trans (by rw [g1])
  have elw : ∀ d, zk_sm (d + 1) m_SaddlerKnows_loggedWeeks [.ref 12] (zp_M P, n) = some (some (.int (zi (min 60 V.2.2.2))), (zp_M P, n)) := fun d => by
    rw [zs_loggedWeeks, h5, show zq_min 60 (zi V.2.2.2) = zi (min 60 V.2.2.2) from zq_mi (a := 60) (by decide) (by omega)]
  have ein : ∀ x d, zk_sm d m_R_in [.int x, .int 0, .int (zi (min 60 V.2.2.2) - 1)] (zp_M P, n) = some (some (.int (zp_b (yrg (min 60 V.2.2.2) x))), (zp_M P, n)) := fun x d => by
    rw [zs_Rin, yrg_in (m := min 60 V.2.2.2) (by omega) (Int32.sub_add_cancel _ _) (fun z => by rw [z]; decide)]
  cases h : yrg (min 60 V.2.2.2) i with
  | false =>
    have h' := h
    rw [yrg_e (by omega)] at h'
    refine yOK_q (v := -1) (P1 := P) (P2 := P) ?_ ?_ hI
    · rw [e_SaddlerKnows_log]
      by_cases q : i < 0
      · rw [if_pos q]
      · rw [decide_eq_false q] at h'
        rw [if_neg q, zp_Cv, Option.bind_some, elw, zs_cI, Option.bind_some, if_neg (of_decide_eq_false h')]
    · rw [e_R_log, zp_R27, Option.bind_some, e40, Option.bind_some, ein, h, zs_cI, Option.bind_some, zp_ib]; rfl
  | true =>
    obtain ⟨k, hk, rfl⟩ := yrg_o h
    have ek : zi V.2.2.2 - 1 - zi k = zi (V.2.2.2 - 1 - k) := by rw [zi_d (by omega), zi_sub (by omega)]
    have hcl : zk_sm (d + 20) m_SaddlerKnows_log [.ref 12, .int (zi k), .int w] (zp_M P, n) = (zk_cI (zk_sm (d + 19) m_Past_entry [.ref 40, .int (zi (V.2.2.2 - 1 - k)), .int w] (zp_M P, n))).bind fun p5 => some (some (.int p5.1), p5.2) := by
      rw [e_SaddlerKnows_log, if_neg (zi_n (by omega)), zp_Cv, Option.bind_some, elw, zs_cI, Option.bind_some, if_pos ((zi_l (by omega) (by omega)).mpr hk), zp_C6, Option.bind_some, zp_C5, Option.bind_some, zp_s5 zs_35, Option.bind_some, zp_Sv, Option.bind_some, h5, ek]
    cases h2 : yrg 3 w with
    | false =>
      have h2' := h2
      rw [yrg_e (by decide)] at h2'
      refine yOK_q (v := -1) (P1 := P) (P2 := P) ?_ ?_ hI
      · rw [hcl, e_Past_entry]
        by_cases q : w < 0
        · rw [if_pos q]; rfl
        · rw [decide_eq_false q] at h2'
          rw [if_neg q, if_neg (show ¬ w < 3 from of_decide_eq_false h2')]; rfl
      · rw [e_R_log, zp_R27, Option.bind_some, e40, Option.bind_some, ein, h, zs_cI, Option.bind_some, zp_ib, cond_true, yg_Rin (m := 3) (by decide) (by decide) (by decide), h2, zs_cI, Option.bind_some, zp_ib]; rfl
    | true =>
      obtain ⟨c, hc, rfl⟩ := yrg_o h2
      refine yOK_q (v := P.2.1 41 (3 * ((V.2.2.2 - 1 - k) % 100) + c)) (P1 := P) (P2 := P) ?_ ?_ hI
      · have hi : zi ((V.2.2.2 - 1 - k) % 100) * 3 + zi c = zi (3 * ((V.2.2.2 - 1 - k) % 100) + c) := by
          show Int32.ofNat _ * Int32.ofNat 3 + Int32.ofNat c = _
          rw [← Int32.ofNat_mul, ← Int32.ofNat_add, Nat.mul_comm]
        rw [hcl, e_Past_entry, if_neg (zi_n (by omega)), if_pos (show zi c < 3 from (zi_l (m := 3) (by omega) (by decide)).mpr hc), zp_S0, Option.bind_some, zs_fmod (by omega), zs_cI, Option.bind_some, hi, zs_at zp_a41 (by decide), zs_cI, Option.bind_some, zp_gi (by omega) (by decide), zs_cI, Option.bind_some]
      · have hi : 41 + 3 * (zi (min 60 V.2.2.2) - 1 - zi k) + zi c = zi (41 + 3 * (min 60 V.2.2.2 - 1 - k) + c) := by
          rw [zi_d (by omega), zi_sub (by omega)]
          show Int32.ofNat 41 + Int32.ofNat 3 * Int32.ofNat _ + Int32.ofNat c = _
          rw [← Int32.ofNat_mul, ← Int32.ofNat_add, ← Int32.ofNat_add]
        rw [e_R_log, zp_R27, Option.bind_some, e40, Option.bind_some, ein, h, zs_cI, Option.bind_some, zp_ib, cond_true, yg_Rin (m := 3) (by decide) (by decide) (by decide), h2, zs_cI, Option.bind_some, zp_ib, cond_true, zp_R27, Option.bind_some, Option.bind_some, e40, Option.bind_some, hi, zp_ldi zp_a286 (by omega) (by decide), Option.bind_some, g2 k c hk hc]
theorem yc_shares (hI : yI P n.1) {p c : Int32} : yOK (d + 20) P n m_SaddlerKnows_shares m_R_shares [.int p, .int c] := by
  obtain ⟨h0, T, V, nl, L, c0, hP⟩ := id hI
  have hT := hP.1.1
  have hR := hP.1.2.1
  have hC := hP.2.1.1
  have hRr := hP.2.1.2.1
  have hB := hP.2.1.2.2.2.1
  have h6 := hT.2.1
  cases h : yrg T.1 p with
  | false =>
    refine yOK_q (v := -1) (P1 := P) (P2 := P) ?_ ?_ hI
    · rw [e_SaddlerKnows_shares, zp_Cv, Option.bind_some, yg_pers hT, h, zs_cI, Option.bind_some, zp_ib]; rfl
    · rw [e_R_shares, zp_Rv, Option.bind_some, yg_Rpers hR, h, zs_cI, Option.bind_some, zp_ib]; rfl
  | true =>
    obtain ⟨q, hq, rfl⟩ := yrg_o h
    cases h2 : yrg 1000 c with
    | false =>
      refine yOK_q (v := -1) (P1 := P) (P2 := P) ?_ ?_ hI
      · rw [e_SaddlerKnows_shares, zp_Cv, Option.bind_some, yg_pers hT, h, zs_cI, Option.bind_some, zp_ib, cond_true]
        by_cases q1 : c < 0
        · rw [if_pos q1]
        · obtain ⟨k, hk, rfl⟩ := zi_r q1
          have : ¬ k < 1000 := fun z => by rw [yrg_i z] at h2; cases h2
          rw [if_neg q1, if_pos (show 999 < zi k from (zi_l (i := 999) (by decide) hk).mpr (by omega))]
      · rw [e_R_shares, zp_Rv, Option.bind_some, yg_Rpers hR, h, zs_cI, Option.bind_some, zp_ib, cond_true, yg_Rin (m := 1000) (by decide) (by decide) (by decide), h2, zs_cI, Option.bind_some, zp_ib]; rfl
    | true =>
      obtain ⟨k, hk, rfl⟩ := yrg_o h2
      obtain ⟨b1, b2⟩ := ygs_b hB T.1 h6
      have hn : ¬ (999 : Int32) < zi k := fun z => absurd ((zi_l (i := 999) (by decide) (by omega)).mp z) (by omega)
      by_cases q0 : ygs V T.1 = 0
      · refine yOK_q (v := 0) (P1 := P) (P2 := P) ?_ ?_ hI
        · rw [e_SaddlerKnows_shares, zp_Cv, Option.bind_some, yg_pers hT, h, zs_cI, Option.bind_some, zp_ib, cond_true, if_neg (zi_n (by omega)), if_neg hn, zp_C5, Option.bind_some, zp_sv zs_35, Option.bind_some, yg_gall zs_35 hC hB h6, zs_cI, Option.bind_some, q0, if_neg (show ¬ (0 : Int32) < 0 by decide)]
        · rw [e_R_shares, zp_Rv, Option.bind_some, yg_Rpers hR, h, zs_cI, Option.bind_some, zp_ib, cond_true, yg_Rin (m := 1000) (by decide) (by decide) (by decide), h2, zs_cI, Option.bind_some, zp_ib, cond_true, zp_Rv, Option.bind_some, yg_Rgall hR hRr, zs_cI, Option.bind_some, if_pos q0]
      · have hpos : 0 < ygs V T.1 := Int32.lt_iff_toInt_lt.mpr (by
          have h3 : (0 : Int32).toInt = 0 := by decide
          rw [h3]
          rcases Int.lt_or_eq_of_le b1 with z | z
          · exact z
          · exact absurd (Int32.toInt_inj.mp (by rw [h3]; exact z.symm)) q0)
        refine yOK_q (v := zi k * V.2.1 q / ygs V T.1) (P1 := P) (P2 := P) ?_ ?_ hI
        · rw [e_SaddlerKnows_shares, zp_Cv, Option.bind_some, yg_pers hT, h, zs_cI, Option.bind_some, zp_ib, cond_true, if_neg (zi_n (by omega)), if_neg hn, zp_C5, Option.bind_some, zp_sv zs_35, Option.bind_some, yg_gall zs_35 hC hB h6, zs_cI, Option.bind_some, if_pos hpos, zp_C5, Option.bind_some, zp_s3 zs_35, Option.bind_some, zs_at (zp_sb_t zs_35).2.2.2.2 (by decide), zs_cI, Option.bind_some, yC_g hC (by omega), if_neg q0]
        · rw [e_R_shares, zp_Rv, Option.bind_some, yg_Rpers hR, h, zs_cI, Option.bind_some, zp_ib, cond_true, yg_Rin (m := 1000) (by decide) (by decide) (by decide), h2, zs_cI, Option.bind_some, zp_ib, cond_true, zp_Rv, Option.bind_some, yg_Rgall hR hRr, zs_cI, Option.bind_some, if_neg q0, zp_R27, Option.bind_some, zi_32, zp_ldi zp_a286 (show 32 + q < 221 by omega) (by decide), Option.bind_some, hRr.2.1 q (by omega), zp_Rv, Option.bind_some, yg_Rgall hR hRr, zs_cI, Option.bind_some, if_neg q0]
theorem yc_count (hI : yI P n.1) {i : Int32} : yOK (d + 20) P n m_SaddlerKnows_count m_R_count [.int i] := by
  obtain ⟨h0, T, V, nl, L, c0, hP⟩ := id hI
  have hT := hP.1.1
  have hR := hP.1.2.1
  have hC := hP.2.1.1
  have hRr := hP.2.1.2.1
  have hO := hP.2.1.2.2.1
  have h6 := hT.2.1
  obtain ⟨x1, x2, -⟩ := hP.1.2.2.1
  obtain ⟨nn, -, n2, n3, -⟩ := hP.1.2.2.2.2.1
  obtain ⟨nw, -, q2, q3, -, q5, -⟩ := hP.1.2.2.2.2.2
  obtain ⟨k1, k2, len, l1, l2, l3, l4⟩ := hP.2.2
  obtain ⟨g1, g2⟩ := hP.2.1.2.2.2.2.1
  obtain ⟨-, na, nx, U, u0, u1, u2, -⟩ := hP.2.1.2.2.2.2.2
  have h5 : P.1 35 5 = zi V.2.2.2 := hC.2.2.2
  have hw := hP.2.1.2.2.2.1.2.2
  cases h : yrg 11 i with
  | false =>
    have w : ∀ k, k < 11 → ¬ i = zi k := fun k hk z => by rw [z, yrg_i hk] at h; cases h
    refine yOK_q (v := -1000000) (P1 := P) (P2 := P) ?_ ?_ hI
    · rw [e_SaddlerKnows_count, if_neg (show ¬ i = 0 from w 0 (by decide)), if_neg (show ¬ i = 1 from w 1 (by decide)), if_neg (show ¬ i = 2 from w 2 (by decide)), if_neg (show ¬ i = 3 from w 3 (by decide)), if_neg (show ¬ i = 4 from w 4 (by decide)), if_neg (show ¬ i = 5 from w 5 (by decide)), if_neg (show ¬ i = 6 from w 6 (by decide)), if_neg (show ¬ i = 7 from w 7 (by decide)), if_neg (show ¬ i = 8 from w 8 (by decide)), if_neg (show ¬ i = 9 from w 9 (by decide)), if_neg (show ¬ i = 10 from w 10 (by decide))]
    · rw [e_R_count, if_neg (show ¬ i = 0 from w 0 (by decide)), if_neg (show ¬ i = 1 from w 1 (by decide)), if_neg (show ¬ i = 2 from w 2 (by decide)), if_neg (show ¬ i = 3 from w 3 (by decide)), if_neg (show ¬ i = 4 from w 4 (by decide)), if_neg (show ¬ i = 5 from w 5 (by decide)), if_neg (show ¬ i = 6 from w 6 (by decide)), if_neg (show ¬ i = 7 from w 7 (by decide)), if_neg (show ¬ i = 8 from w 8 (by decide)), if_neg (show ¬ i = 9 from w 9 (by decide)), if_neg (show ¬ i = 10 from w 10 (by decide))]
  | true =>
    obtain ⟨k, hk, rfl⟩ := yrg_o h
    have hk : k = 0 ∨ k = 1 ∨ k = 2 ∨ k = 3 ∨ k = 4 ∨ k = 5 ∨ k = 6 ∨ k = 7 ∨ k = 8 ∨ k = 9 ∨ k = 10 := by omega
    rcases hk with rfl | rfl | rfl | rfl | rfl | rfl | rfl | rfl | rfl | rfl | rfl
    · refine yOK_q (v := zi T.1) (P1 := P) (P2 := P) ?_ ?_ hI
      · rw [e_SaddlerKnows_count, if_pos (by decide), zp_C3, Option.bind_some, zp_T2, Option.bind_some, hT.1]
      · rw [e_R_count, if_pos (by decide), zp_R25, Option.bind_some, hR.1]
    · refine yOK_q (v := zi nl) (P1 := P) (P2 := P) ?_ ?_ hI
      · rw [e_SaddlerKnows_count, if_neg (by decide), if_pos (by decide), zp_C3, Option.bind_some, zp_T3, Option.bind_some, x1]
      · rw [e_R_count, if_neg (by decide), if_pos (by decide), zp_R26, Option.bind_some, x2]
    · refine yOK_q (v := zi nw) (P1 := P) (P2 := P) ?_ ?_ hI
      · rw [e_SaddlerKnows_count, if_neg (by decide), if_neg (by decide), if_pos (by decide), zp_C4, Option.bind_some, zp_L2, Option.bind_some, q2]
      · rw [e_R_count, if_neg (by decide), if_neg (by decide), if_pos (by decide), zp_R13, Option.bind_some, q3]
    · refine yOK_q (v := zi len) (P1 := P) (P2 := P) ?_ ?_ hI
      · rw [e_SaddlerKnows_count, if_neg (by decide), if_neg (by decide), if_neg (by decide), if_pos (by decide), zp_C0, Option.bind_some, zp_P0, Option.bind_some, l2]
      · rw [e_R_count, if_neg (by decide), if_neg (by decide), if_neg (by decide), if_pos (by decide), zp_R2, Option.bind_some, l3]
    · refine yOK_q (v := P.1 33 3) (P1 := P) (P2 := P) ?_ ?_ hI
      · rw [e_SaddlerKnows_count, if_neg (by decide), if_neg (by decide), if_neg (by decide), if_neg (by decide), if_pos (by decide), zp_C4, Option.bind_some, zp_L3, Option.bind_some]
      · rw [e_R_count, if_neg (by decide), if_neg (by decide), if_neg (by decide), if_neg (by decide), if_pos (by decide), zp_R29, Option.bind_some, q5]
    · refine yOK_q (v := zi V.2.2.2) (P1 := P) (P2 := P) ?_ ?_ hI
      · rw [e_SaddlerKnows_count, if_neg (by decide), if_neg (by decide), if_neg (by decide), if_neg (by decide), if_neg (by decide), if_pos (by decide), zp_C5, Option.bind_some, zp_s5 zs_35, Option.bind_some, h5]
      · rw [e_R_count, if_neg (by decide), if_neg (by decide), if_neg (by decide), if_neg (by decide), if_neg (by decide), if_pos (by decide), zp_R27, Option.bind_some, zp_lit (i := 39) (y := 39) zp_a286 rfl (by decide) (by decide), Option.bind_some, hRr.2.2.2]
    · refine yOK_q (v := zq_bits (yns V)) (P1 := P) (P2 := P) ?_ ?_ hI
      · rw [e_SaddlerKnows_count, if_neg (by decide), if_neg (by decide), if_neg (by decide), if_neg (by decide), if_neg (by decide), if_neg (by decide), if_pos (by decide), zp_C5, Option.bind_some, zp_sv zs_35, Option.bind_some, zs_saddleCount zs_35, zs_cI, Option.bind_some, yns_C hC hO h6]
      · rw [e_R_count, if_neg (by decide), if_neg (by decide), if_neg (by decide), if_neg (by decide), if_neg (by decide), if_neg (by decide), if_pos (by decide), zp_Rv, Option.bind_some, yg_Rones hR hRr hO, zs_cI, Option.bind_some, zs_bitCount, zs_cI, Option.bind_some]
    · refine yOK_q (v := P.1 12 11) (P1 := P) (P2 := P) ?_ ?_ hI
      · rw [e_SaddlerKnows_count, if_neg (by decide), if_neg (by decide), if_neg (by decide), if_neg (by decide), if_neg (by decide), if_neg (by decide), if_neg (by decide), if_pos (by decide), zp_C11, Option.bind_some]
      · rw [e_R_count, if_neg (by decide), if_neg (by decide), if_neg (by decide), if_neg (by decide), if_neg (by decide), if_neg (by decide), if_neg (by decide), if_pos (by decide), zp_R30, Option.bind_some, k2]
    · refine yOK_q (v := zi nn) (P1 := P) (P2 := P) ?_ ?_ hI
      · rw [e_SaddlerKnows_count, if_neg (by decide), if_neg (by decide), if_neg (by decide), if_neg (by decide), if_neg (by decide), if_neg (by decide), if_neg (by decide), if_neg (by decide), if_pos (by decide), zp_C7, Option.bind_some, zp_N9, Option.bind_some, n2]
      · rw [e_R_count, if_neg (by decide), if_neg (by decide), if_neg (by decide), if_neg (by decide), if_neg (by decide), if_neg (by decide), if_neg (by decide), if_neg (by decide), if_pos (by decide), zp_R46, Option.bind_some, n3]
    · refine yOK_q (v := zi (min 60 V.2.2.2)) (P1 := P) (P2 := P) ?_ ?_ hI
      · rw [e_SaddlerKnows_count, if_neg (by decide), if_neg (by decide), if_neg (by decide), if_neg (by decide), if_neg (by decide), if_neg (by decide), if_neg (by decide), if_neg (by decide), if_neg (by decide), if_pos (by decide), zp_Cv, Option.bind_some, zs_loggedWeeks, h5, show zq_min 60 (zi V.2.2.2) = zi (min 60 V.2.2.2) from zq_mi (a := 60) (by decide) (by omega), zs_cI, Option.bind_some]
      · rw [e_R_count, if_neg (by decide), if_neg (by decide), if_neg (by decide), if_neg (by decide), if_neg (by decide), if_neg (by decide), if_neg (by decide), if_neg (by decide), if_neg (by decide), if_pos (by decide), zp_R27, Option.bind_some, zp_lit (i := 40) (y := 40) zp_a286 rfl (by decide) (by decide), Option.bind_some, g1]
    · refine yOK_q (v := zi na) (P1 := P) (P2 := P) ?_ ?_ hI
      · rw [e_SaddlerKnows_count, if_neg (by decide), if_neg (by decide), if_neg (by decide), if_neg (by decide), if_neg (by decide), if_neg (by decide), if_neg (by decide), if_neg (by decide), if_neg (by decide), if_neg (by decide), if_pos (by decide), zp_C6, Option.bind_some, zp_S6, Option.bind_some, u1]
      · rw [e_R_count, if_neg (by decide), if_neg (by decide), if_neg (by decide), if_neg (by decide), if_neg (by decide), if_neg (by decide), if_neg (by decide), if_neg (by decide), if_neg (by decide), if_neg (by decide), if_pos (by decide), zp_R34, Option.bind_some, u2]
end
