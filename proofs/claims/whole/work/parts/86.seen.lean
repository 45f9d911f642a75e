/-! CALLS 15: seen -/
theorem yM_F {fs : List (Nat × Nat)} {ks : List Nat} {P P' : zp} {np : Nat} (hk : ∀ k, k ∈ [42, 44, 45, 46, 47, 298] → k ∉ ks) (hf : ∀ x, x ∈ [(40, 4), (43, 4), (43, 5), (269, 50)] → x ∉ fs) (h : yF fs ks P P') (hM : yM P np) : yM P' np := by
  rcases hM with ⟨m1, m2⟩ | ⟨m1, m2, m3, I, m4, m5, m6, m7, m8⟩
  · exact Or.inl ⟨(h.1 40 4 (hf _ (by decide))).trans m1, (h.1 269 50 (hf _ (by decide))).trans m2⟩
  · refine Or.inr ⟨(h.1 40 4 (hf _ (by decide))).trans m1, (h.1 269 50 (hf _ (by decide))).trans m2, m3, I, yC_F (fun j h0 hj => hk _ ?_) (hf _ (by decide)) (hf _ (by decide)) h m4, ?_, m6, m7, ?_⟩
    · exact (by decide : ∀ j, j < 5 → 0 < j → 43 + j ∈ [42, 44, 45, 46, 47, 298]) j hj h0
    · rw [h.2.1 298 (hk _ (by decide))]; exact m5
    · rw [h.2.1 298 (hk _ (by decide)), h.2.1 42 (hk _ (by decide))]; exact m8
theorem yb_01 (x : Int32) : x &&& 1 = 0 ∨ x &&& 1 = 1 := by
  cases h : yb_t x 0 with
  | true => exact Or.inr ((yb_l x).mpr h)
  | false =>
    refine Or.inl (yb_ext (fun i hi => ?_))
    rw [yb_and, yb_1 i hi, yb_0]
    by_cases z : i = 0
    · rw [z, h]; rfl
    · rw [decide_eq_false z, Bool.and_false]
section
variable {P : zp} {n : Nat × Nat} {d : Nat}
theorem zp_szi {k m i : Nat} {x : Int32} (h : zp_ad k = (2, m)) (hi : i < m) (hm : m < 2 ^ 31) : zk_stZ (zp_M P, n) k (zi i) x = some (zp_M (zp_sA P k i (x &&& 1)), n) := by
  rw [zp_stZ h, zi_c (by omega), if_neg (fun z => z.elim (zi_n (by omega)) (fun z => by omega))]
theorem zp_N3 : zk_gR (zp_M P, n) 249 6 3 = some 255 := zp_gR (by decide +kernel)
theorem zp_N4 : zk_gR (zp_M P, n) 249 6 4 = some 256 := zp_gR (by decide +kernel)
theorem zp_N5 : zk_gR (zp_M P, n) 249 6 5 = some 257 := zp_gR (by decide +kernel)
theorem zp_N6 : zk_gR (zp_M P, n) 249 6 6 = some 258 := zp_gR (by decide +kernel)
theorem zp_N9p {x : Int32} : zk_pf (zp_M P, n) 249 6 9 (.int x) = some (zp_M (zp_sF P 249 9 x), n) := zp_pI (by decide +kernel)
theorem zp_Nv : zk_rv (zp_M P, n) 249 6 = some () := zp_rv (by decide +kernel)
theorem zp_a255 : zp_ad 255 = (0, 10) := by decide +kernel
theorem zp_a256 : zp_ad 256 = (0, 10) := by decide +kernel
theorem zp_a257 : zp_ad 257 = (0, 10) := by decide +kernel
theorem zp_a258 : zp_ad 258 = (2, 10) := by decide +kernel
theorem zp_a292 : zp_ad 292 = (0, 10) := by decide +kernel
theorem zp_a293 : zp_ad 293 = (0, 10) := by decide +kernel
theorem zp_a294 : zp_ad 294 = (0, 10) := by decide +kernel
theorem zp_a295 : zp_ad 295 = (2, 10) := by decide +kernel
theorem zp_R42 : zk_gR (zp_M P, n) 269 12 42 = some 292 := zp_gR (by decide +kernel)
theorem zp_R43 : zk_gR (zp_M P, n) 269 12 43 = some 293 := zp_gR (by decide +kernel)
theorem zp_R44 : zk_gR (zp_M P, n) 269 12 44 = some 294 := zp_gR (by decide +kernel)
theorem zp_R45 : zk_gR (zp_M P, n) 269 12 45 = some 295 := zp_gR (by decide +kernel)
theorem zp_R46p {x : Int32} : zk_pf (zp_M P, n) 269 12 46 (.int x) = some (zp_M (zp_sF P 269 46 x), n) := zp_pI (by decide +kernel)
def yaC (P : zp) (nn : Nat) (p w g b : Int32) : zp := zp_sF (zp_sA (zp_sA (zp_sA (zp_sA P 255 nn p) 256 nn w) 257 nn g) 258 nn (b &&& 1)) 249 9 (zi (nn + 1))
def yaR (P : zp) (nn : Nat) (p w g b : Int32) : zp := zp_sF (zp_sA (zp_sA (zp_sA (zp_sA P 292 nn p) 293 nn w) 294 nn g) 295 nn (b &&& 1)) 269 46 (zi (nn + 1))
theorem zs_add {nn : Nat} (h9 : P.1 249 9 = zi nn) (hn : nn < 10) {p w g b : Int32} : zk_sm (d + 1) m_Seeing_add [.ref 249, .int p, .int w, .int g, .int b] (zp_M P, n) = some (some (.int 1), (zp_M (yaC P nn p w g b), n)) := by
  rw [e_Seeing_add, zp_N9, Option.bind_some, h9, if_neg (zi_n (by omega)), Option.bind_some, zp_N6, Option.bind_some, zp_al zp_a258 (by decide), Option.bind_some, if_pos ((zi_nI (by omega) (by decide)).mpr hn), zp_N3, Option.bind_some, Option.bind_some, zs_put zp_a255 (by decide), zs_cV, Option.bind_some, zp_pi hn (by decide), zp_N4, Option.bind_some, zp_N9, Option.bind_some, show (zp_sA P 255 nn p).1 249 9 = zi nn from h9, zs_put zp_a256 (by decide), zs_cV, Option.bind_some, zp_pi hn (by decide), zp_N5, Option.bind_some, zp_N9, Option.bind_some, show (zp_sA (zp_sA P 255 nn p) 256 nn w).1 249 9 = zi nn from h9, zs_put zp_a257 (by decide), zs_cV, Option.bind_some, zp_pi hn (by decide), zp_N6, Option.bind_some, zp_N9, Option.bind_some, show (zp_sA (zp_sA (zp_sA P 255 nn p) 256 nn w) 257 nn g).1 249 9 = zi nn from h9, zp_szi zp_a258 hn (by decide), Option.bind_some, zp_N9, Option.bind_some, show (zp_sA (zp_sA (zp_sA (zp_sA P 255 nn p) 256 nn w) 257 nn g) 258 nn (b &&& 1)).1 249 9 = zi nn from h9, zi_s, zp_N9p, Option.bind_some]
  rfl
theorem zs_add0 {nn : Nat} (h9 : P.1 249 9 = zi nn) (hn : nn = 10) {p w g b : Int32} : zk_sm (d + 1) m_Seeing_add [.ref 249, .int p, .int w, .int g, .int b] (zp_M P, n) = some (some (.int 0), (zp_M P, n)) := by
  rw [e_Seeing_add, zp_N9, Option.bind_some, h9, if_neg (zi_n (by omega)), Option.bind_some, zp_N6, Option.bind_some, zp_al zp_a258 (by decide), Option.bind_some, if_neg (fun z => by have := (zi_nI (by omega) (by decide)).mp z; omega)]
theorem yaC_a {nn : Nat} {p w g b : Int32} {j : Nat} : (yaC P nn p w g b).2.1 255 j = (if j = nn then p else P.2.1 255 j) ∧ (yaC P nn p w g b).2.1 256 j = (if j = nn then w else P.2.1 256 j) ∧ (yaC P nn p w g b).2.1 257 j = (if j = nn then g else P.2.1 257 j) ∧ (yaC P nn p w g b).2.1 258 j = (if j = nn then b &&& 1 else P.2.1 258 j) := by
  unfold yaC
  show (zp_sA (zp_sA (zp_sA (zp_sA P 255 nn p) 256 nn w) 257 nn g) 258 nn (b &&& 1)).2.1 255 j = _ ∧ (zp_sA (zp_sA (zp_sA (zp_sA P 255 nn p) 256 nn w) 257 nn g) 258 nn (b &&& 1)).2.1 256 j = _ ∧ (zp_sA (zp_sA (zp_sA (zp_sA P 255 nn p) 256 nn w) 257 nn g) 258 nn (b &&& 1)).2.1 257 j = _ ∧ (zp_sA (zp_sA (zp_sA (zp_sA P 255 nn p) 256 nn w) 257 nn g) 258 nn (b &&& 1)).2.1 258 j = _
  rw [zp_a7 (show 255 ≠ 258 by decide), zp_a7 (show 255 ≠ 257 by decide), zp_a7 (show 255 ≠ 256 by decide), zp_a7 (show 256 ≠ 258 by decide), zp_a7 (show 256 ≠ 257 by decide), zp_a7 (show 257 ≠ 258 by decide)]
  by_cases z : j = nn
  · rw [if_pos z, if_pos z, if_pos z, if_pos z, z]
    exact ⟨zp_a9, zp_a9, zp_a9, zp_a9⟩
  · rw [if_neg z, if_neg z, if_neg z, if_neg z]
    refine ⟨zp_a8 z, (zp_a8 z).trans ?_, (zp_a8 z).trans ?_, (zp_a8 z).trans ?_⟩
    · rw [zp_a7 (show 256 ≠ 255 by decide)]
    · rw [zp_a7 (show 257 ≠ 256 by decide), zp_a7 (show 257 ≠ 255 by decide)]
    · rw [zp_a7 (show 258 ≠ 257 by decide), zp_a7 (show 258 ≠ 256 by decide), zp_a7 (show 258 ≠ 255 by decide)]
theorem yaR_a {nn : Nat} {p w g b : Int32} {j : Nat} : (yaR P nn p w g b).2.1 292 j = (if j = nn then p else P.2.1 292 j) ∧ (yaR P nn p w g b).2.1 293 j = (if j = nn then w else P.2.1 293 j) ∧ (yaR P nn p w g b).2.1 294 j = (if j = nn then g else P.2.1 294 j) ∧ (yaR P nn p w g b).2.1 295 j = (if j = nn then b &&& 1 else P.2.1 295 j) := by
  unfold yaR
  show (zp_sA (zp_sA (zp_sA (zp_sA P 292 nn p) 293 nn w) 294 nn g) 295 nn (b &&& 1)).2.1 292 j = _ ∧ (zp_sA (zp_sA (zp_sA (zp_sA P 292 nn p) 293 nn w) 294 nn g) 295 nn (b &&& 1)).2.1 293 j = _ ∧ (zp_sA (zp_sA (zp_sA (zp_sA P 292 nn p) 293 nn w) 294 nn g) 295 nn (b &&& 1)).2.1 294 j = _ ∧ (zp_sA (zp_sA (zp_sA (zp_sA P 292 nn p) 293 nn w) 294 nn g) 295 nn (b &&& 1)).2.1 295 j = _
  rw [zp_a7 (show 292 ≠ 295 by decide), zp_a7 (show 292 ≠ 294 by decide), zp_a7 (show 292 ≠ 293 by decide), zp_a7 (show 293 ≠ 295 by decide), zp_a7 (show 293 ≠ 294 by decide), zp_a7 (show 294 ≠ 295 by decide)]
  by_cases z : j = nn
  · rw [if_pos z, if_pos z, if_pos z, if_pos z, z]
    exact ⟨zp_a9, zp_a9, zp_a9, zp_a9⟩
  · rw [if_neg z, if_neg z, if_neg z, if_neg z]
    refine ⟨zp_a8 z, (zp_a8 z).trans ?_, (zp_a8 z).trans ?_, (zp_a8 z).trans ?_⟩
    · rw [zp_a7 (show 293 ≠ 292 by decide)]
    · rw [zp_a7 (show 294 ≠ 293 by decide), zp_a7 (show 294 ≠ 292 by decide)]
    · rw [zp_a7 (show 295 ≠ 294 by decide), zp_a7 (show 295 ≠ 293 by decide), zp_a7 (show 295 ≠ 292 by decide)]
theorem yF_yaC {nn : Nat} {p w g b : Int32} : yF [(249, 9), (269, 46)] [255, 256, 257, 258, 292, 293, 294, 295] P (yaC P nn p w g b) := yF_t (yF_t (yF_t (yF_t (yF_A (by decide)) (yF_A (by decide))) (yF_A (by decide))) (yF_A (by decide))) (yF_f (by decide))
theorem yF_yaR {nn : Nat} {p w g b : Int32} : yF [(249, 9), (269, 46)] [255, 256, 257, 258, 292, 293, 294, 295] P (yaR P nn p w g b) := yF_t (yF_t (yF_t (yF_t (yF_A (by decide)) (yF_A (by decide))) (yF_A (by decide))) (yF_A (by decide))) (yF_f (by decide))
theorem yc_seen (hI : yI P n.1) {p w g b : Int32} : yOK (d + 20) P n m_SaddlerKnows_seen m_R_seen [.int p, .int w, .int g, .int b] := by
  obtain ⟨h0, T, V, nl, L, c0, hP⟩ := id hI
  have hT := hP.1.1
  have hR := hP.1.2.1
  have hin9 : ∀ s : zk_S, zk_sm (d + 19) m_R_in [.int w, .int 1, .int 9] s = some (some (.int (zp_b (!decide (w < 1) && !decide (9 < w)))), s) := fun s => zs_Rin
  have hin99 : ∀ s : zk_S, zk_sm (d + 19) m_R_in [.int g, .int 0, .int 99] s = some (some (.int (zp_b (!decide (g < 0) && !decide (99 < g)))), s) := fun s => zs_Rin
  cases h : yrg T.1 p with
  | false =>
    refine yOK_q (v := -1) (P1 := P) (P2 := P) ?_ ?_ hI
    · rw [e_SaddlerKnows_seen, zp_Cv, Option.bind_some, yg_pers hT, h, zs_cI, Option.bind_some, zp_ib, cond_false]
    · rw [e_R_seen, zp_Rv, Option.bind_some, yg_Rpers hR, h, zs_cI, Option.bind_some, zp_ib, cond_false]
  | true =>
    obtain ⟨a, ha, rfl⟩ := yrg_o h
    by_cases q1 : w < 1
    · refine yOK_q (v := -1) (P1 := P) (P2 := P) ?_ ?_ hI
      · rw [e_SaddlerKnows_seen, zp_Cv, Option.bind_some, yg_pers hT, h, zs_cI, Option.bind_some, zp_ib, cond_true, if_pos q1]
      · rw [e_R_seen, zp_Rv, Option.bind_some, yg_Rpers hR, h, zs_cI, Option.bind_some, zp_ib, cond_true, hin9, decide_eq_true q1, zs_cI, Option.bind_some, zp_ib, Bool.not_true, Bool.false_and, cond_false]
    · by_cases q2 : 9 < w
      · refine yOK_q (v := -1) (P1 := P) (P2 := P) ?_ ?_ hI
        · rw [e_SaddlerKnows_seen, zp_Cv, Option.bind_some, yg_pers hT, h, zs_cI, Option.bind_some, zp_ib, cond_true, if_neg q1, if_pos q2]
        · rw [e_R_seen, zp_Rv, Option.bind_some, yg_Rpers hR, h, zs_cI, Option.bind_some, zp_ib, cond_true, hin9, decide_eq_false q1, decide_eq_true q2, zs_cI, Option.bind_some, zp_ib, Bool.not_true, Bool.and_false, cond_false]
      · by_cases q3 : g < 0
        · refine yOK_q (v := -1) (P1 := P) (P2 := P) ?_ ?_ hI
          · rw [e_SaddlerKnows_seen, zp_Cv, Option.bind_some, yg_pers hT, h, zs_cI, Option.bind_some, zp_ib, cond_true, if_neg q1, if_neg q2, if_pos q3]
          · rw [e_R_seen, zp_Rv, Option.bind_some, yg_Rpers hR, h, zs_cI, Option.bind_some, zp_ib, cond_true, hin9, decide_eq_false q1, decide_eq_false q2, zs_cI, Option.bind_some, zp_ib, Bool.not_false, Bool.true_and, cond_true, hin99, decide_eq_true q3, zs_cI, Option.bind_some, zp_ib, Bool.not_true, Bool.false_and, cond_false]
        · by_cases q4 : 99 < g
          · refine yOK_q (v := -1) (P1 := P) (P2 := P) ?_ ?_ hI
            · rw [e_SaddlerKnows_seen, zp_Cv, Option.bind_some, yg_pers hT, h, zs_cI, Option.bind_some, zp_ib, cond_true, if_neg q1, if_neg q2, if_neg q3, if_pos q4]
            · rw [e_R_seen, zp_Rv, Option.bind_some, yg_Rpers hR, h, zs_cI, Option.bind_some, zp_ib, cond_true, hin9, decide_eq_false q1, decide_eq_false q2, zs_cI, Option.bind_some, zp_ib, Bool.not_false, Bool.true_and, cond_true, hin99, decide_eq_false q3, decide_eq_true q4, zs_cI, Option.bind_some, zp_ib, Bool.not_true, Bool.and_false, cond_false]
          · obtain ⟨nn, n1, n2, n3, n4⟩ := hP.1.2.2.2.2.1
            rcases Nat.lt_or_ge nn 10 with hn | hn
            · have f1 := @yF_yaC P nn (zi a) w g b
              have f2 := @yF_yaR (yaC P nn (zi a) w g b) nn (zi a) w g b
              have f := yF_t f1 f2
              have hR1 : yTR (yaC P nn (zi a) w g b) T := yTR_F (by decide) f1 hR
              have n3' : (yaC P nn (zi a) w g b).1 269 46 = zi nn := (zp_f8 (by decide)).trans n3
              refine yOK_q (v := zi (nn + 1)) (P1 := yaC P nn (zi a) w g b) (P2 := yaR (yaC P nn (zi a) w g b) nn (zi a) w g b) ?_ ?_ ⟨h0, T, V, nl, L, c0, ⟨yTC_F (by decide) (by decide) f hT, yTR_F (by decide) f hR, yX_F (by decide) (by decide) f hP.1.2.2.1, yM_F (by decide) (by decide) f hP.1.2.2.2.1, ⟨nn + 1, hn, ?_, ?_, fun i hi => ?_⟩, yQ_F (by decide) (by decide) f hP.1.2.2.2.2.2⟩, yA_F (by decide) (by decide) f hP.2.1, yK_F (by decide) (by decide) f hP.2.2⟩
              · rw [e_SaddlerKnows_seen, zp_Cv, Option.bind_some, yg_pers hT, h, zs_cI, Option.bind_some, zp_ib, cond_true, if_neg q1, if_neg q2, if_neg q3, if_neg q4, zp_C7, Option.bind_some, zp_Nv, Option.bind_some, zs_add n2 hn, zs_cI, Option.bind_some, if_neg zi_1n, zp_C7, Option.bind_some, zp_N9, Option.bind_some, show (yaC P nn (zi a) w g b).1 249 9 = zi (nn + 1) from zp_f9]
              · have e1 : ∀ Q : zp, Q.1 269 46 = zi nn → zk_gI (zp_M Q, n) 269 12 46 = some (zi nn) := fun Q hQ => zp_R46.trans (by rw [hQ])
                rw [e_R_seen, zp_Rv, Option.bind_some, yg_Rpers hR1, h, zs_cI, Option.bind_some, zp_ib, cond_true, hin9, decide_eq_false q1, decide_eq_false q2, zs_cI, Option.bind_some, zp_ib, Bool.not_false, Bool.true_and, cond_true, hin99, decide_eq_false q3, decide_eq_false q4, zs_cI, Option.bind_some, zp_ib, Bool.not_false, Bool.true_and, cond_true, e1 _ n3', Option.bind_some, if_neg (fun z => by have := (zi_eq (b := 10) (by omega) (by decide)).mp z; omega), zp_R42, Option.bind_some, Option.bind_some, zp_sti zp_a292 hn (by decide), Option.bind_some, zp_R43, Option.bind_some, e1 _ (show (zp_sA (yaC P nn (zi a) w g b) 292 nn (zi a)).1 269 46 = zi nn from n3'), Option.bind_some, zp_sti zp_a293 hn (by decide), Option.bind_some, zp_R44, Option.bind_some, e1 _ (show (zp_sA (zp_sA (yaC P nn (zi a) w g b) 292 nn (zi a)) 293 nn w).1 269 46 = zi nn from n3'), Option.bind_some, zp_sti zp_a294 hn (by decide), Option.bind_some, zp_R45, Option.bind_some, e1 _ (show (zp_sA (zp_sA (zp_sA (yaC P nn (zi a) w g b) 292 nn (zi a)) 293 nn w) 294 nn g).1 269 46 = zi nn from n3'), Option.bind_some, zp_szi zp_a295 hn (by decide), Option.bind_some, e1 _ (show (zp_sA (zp_sA (zp_sA (zp_sA (yaC P nn (zi a) w g b) 292 nn (zi a)) 293 nn w) 294 nn g) 295 nn (b &&& 1)).1 269 46 = zi nn from n3'), Option.bind_some, zi_s, zp_R46p, Option.bind_some, zp_R46, Option.bind_some, zp_f9]
                rfl
              · exact (zp_f8 (by decide)).trans (show (yaC P nn (zi a) w g b).1 249 9 = zi (nn + 1) from zp_f9)
              · exact zp_f9
              · obtain ⟨r1, r2, r3, r4⟩ := @yaR_a (yaC P nn (zi a) w g b) nn (zi a) w g b i
                obtain ⟨c1, c2, c3, c4⟩ := @yaC_a P nn (zi a) w g b i
                have o : ∀ k, k ≠ 292 → k ≠ 293 → k ≠ 294 → k ≠ 295 → (yaR (yaC P nn (zi a) w g b) nn (zi a) w g b).2.1 k = (yaC P nn (zi a) w g b).2.1 k := fun k k1 k2 k3 k4 => by
                  unfold yaR
                  show (zp_sA (zp_sA (zp_sA (zp_sA _ 292 nn _) 293 nn w) 294 nn g) 295 nn (b &&& 1)).2.1 k = _
                  rw [zp_a7 k4, zp_a7 k3, zp_a7 k2, zp_a7 k1]
                have u : ∀ k, k ≠ 255 → k ≠ 256 → k ≠ 257 → k ≠ 258 → (yaC P nn (zi a) w g b).2.1 k = P.2.1 k := fun k k1 k2 k3 k4 => by
                  unfold yaC
                  show (zp_sA (zp_sA (zp_sA (zp_sA _ 255 nn _) 256 nn w) 257 nn g) 258 nn (b &&& 1)).2.1 k = _
                  rw [zp_a7 k4, zp_a7 k3, zp_a7 k2, zp_a7 k1]
                rw [u 292 (by decide) (by decide) (by decide) (by decide)] at r1
                rw [u 293 (by decide) (by decide) (by decide) (by decide)] at r2
                rw [u 294 (by decide) (by decide) (by decide) (by decide)] at r3
                rw [u 295 (by decide) (by decide) (by decide) (by decide)] at r4
                rw [o 255 (by decide) (by decide) (by decide) (by decide), o 256 (by decide) (by decide) (by decide) (by decide), o 257 (by decide) (by decide) (by decide) (by decide), o 258 (by decide) (by decide) (by decide) (by decide), r1, r2, r3, r4, c1, c2, c3, c4]
                by_cases z : i = nn
                · rw [if_pos z, if_pos z, if_pos z, if_pos z, if_pos z, if_pos z, if_pos z, if_pos z]
                  have w0 : ¬ w < 0 := fun y => q1 (Int32.lt_trans y (by decide))
                  obtain ⟨k, hk, rfl⟩ := zi_r w0
                  refine ⟨⟨rfl, rfl, rfl, rfl⟩, ⟨a, ha, rfl⟩, ⟨k, ?_, ?_, rfl⟩, yb_01 b⟩
                  · by_cases y : 1 ≤ k
                    · exact y
                    · exact absurd ((zi_l (m := 1) hk (by decide)).mpr (by omega)) q1
                  · by_cases y : k ≤ 9
                    · exact y
                    · exact absurd ((zi_l (i := 9) (by decide) hk).mpr (by omega)) q2
                · rw [if_neg z, if_neg z, if_neg z, if_neg z, if_neg z, if_neg z, if_neg z, if_neg z]
                  exact n4 i (by omega)
            · have h10 : nn = 10 := by omega
              refine yOK_q (v := -1) (P1 := P) (P2 := P) ?_ ?_ hI
              · rw [e_SaddlerKnows_seen, zp_Cv, Option.bind_some, yg_pers hT, h, zs_cI, Option.bind_some, zp_ib, cond_true, if_neg q1, if_neg q2, if_neg q3, if_neg q4, zp_C7, Option.bind_some, zp_Nv, Option.bind_some, zs_add0 n2 h10, zs_cI, Option.bind_some, if_pos (show (0 : Int32) = 0 from rfl)]
              · rw [e_R_seen, zp_Rv, Option.bind_some, yg_Rpers hR, h, zs_cI, Option.bind_some, zp_ib, cond_true, hin9, decide_eq_false q1, decide_eq_false q2, zs_cI, Option.bind_some, zp_ib, Bool.not_false, Bool.true_and, cond_true, hin99, decide_eq_false q3, decide_eq_false q4, zs_cI, Option.bind_some, zp_ib, Bool.not_false, Bool.true_and, cond_true, zp_R46, Option.bind_some, n3, if_pos (by rw [h10]; rfl)]
end
