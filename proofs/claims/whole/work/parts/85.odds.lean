/-! CALLS 14: odds -/
abbrev yoh (a c : Int32) : Int32 := Int64.toInt32 (((Int32.toInt64 a) * (Int32.toInt64 c)) / 100)
def yod (T : yT) (V : yV) (p : Nat) (c : Int32) : Nat → Int32 → Nat → Int32 → Int32
  | 0, _, _, _ => 0
  | m + 1, g, w, a => yod T V p c m (zq_max 0 (g - T.2.2.2.2.1)) (w + 1) (yoh a c) + (if ygl T V p g w < ylm T p then yod T V p c m (ygl T V p g w) (w + 1) (a - yoh a c) else a - yoh a c)
abbrev yr5 : List Nat := [278, 279, 286, 288, 290]
section
variable {P : zp} {n : Nat × Nat} {d : Nat} {V : yV} {T : yT}
theorem zi_as (x y z : Int32) : x + y - z = x + (y - z) := by rw [Int32.sub_eq_add_neg, Int32.sub_eq_add_neg, Int32.add_assoc]
theorem zs_parts (hO : yO T.1 V) {p : Nat} {c : Int32} (hp : p < T.1) : ∀ (m w : Nat) (g a : Int32) (P : zp), yTC P T → yC P 35 V → w + m ≤ 2000 → ∃ P', zk_sm (d + m + 8) m_SaddlerKnows_partsThrown [.ref 12, .int (zi p), .int (zi m), .int c, .int g, .int (zi w), .int a] (zp_M P, n) = some (some (.int (yod T V p c m g w a)), (zp_M P', n)) ∧ yF [] [] P P'
  | 0, w, g, a, P, hT, hC, hw => by
    refine ⟨P, ?_, yF_r⟩
    rw [e_SaddlerKnows_partsThrown, if_neg (show ¬ (0 : Int32) < zi 0 by decide)]
    rfl
  | m + 1, w, g, a, P, hT, hC, hw => by
    obtain ⟨P1, e1, f1⟩ := zs_parts hO hp m (w + 1) (zq_max 0 (g - T.2.2.2.2.1)) (yoh a c) P hT hC (by omega)
    have hT1 := yTC_0 f1 hT
    have hC1 := yC_0 f1 zs_35 hC
    obtain ⟨P2, e2, f2⟩ := zs_galledBy (d := d + m + 1) (n := n) zs_35 hT1 hC1 hO (p := p) (w := w) (g := g) hp (by omega)
    have hT2 := yTC_0 f2 hT1
    have hC2 := yC_0 f2 zs_35 hC1
    have em : zi (m + 1) - 1 = zi m := zi_d (by omega)
    have hs : zk_sm (d + (m + 1) + 8) m_SaddlerKnows_partsThrown [.ref 12, .int (zi p), .int (zi (m + 1)), .int c, .int g, .int (zi w), .int a] (zp_M P, n) = _ := e_SaddlerKnows_partsThrown (d + m + 8) 12 (zi p) (zi (m + 1)) c g (zi w) a (zp_M P, n)
    rw [if_pos ((zi_0 (by omega)).mpr (Nat.succ_pos m)), zp_C3, Option.bind_some, zp_T0, Option.bind_some, hT.2.2.2.1, zs_max, zs_cI, Option.bind_some, zp_Cv, Option.bind_some, em, zi_s, e1, zs_cI, Option.bind_some, zp_C4, Option.bind_some, zp_C5, Option.bind_some, zp_Lv, Option.bind_some, show zk_sm (d + m + 8) m_Pinches_galledBy _ (zp_M P1, n) = _ from e2, zs_cI, Option.bind_some, zp_C3, Option.bind_some, zp_Tv, Option.bind_some, ylm_C hT2 hp, zs_cI, Option.bind_some] at hs
    by_cases q : ygl T V p g w < ylm T p
    · obtain ⟨P3, e3, f3⟩ := zs_parts hO hp m (w + 1) (ygl T V p g w) (a - yoh a c) P2 hT2 hC2 (by omega)
      refine ⟨P3, ?_, yF_t f1 (yF_t f2 f3)⟩
      rw [hs, if_pos (show zq_min 99 (g + yld T V p g w) < ylm T p from q), zp_Cv, Option.bind_some, show zk_sm (d + m + 8) m_SaddlerKnows_partsThrown [.ref 12, .int (zi p), .int (zi m), .int c, .int (zq_min 99 (g + yld T V p g w)), .int (zi (w + 1)), .int (a - yoh a c)] (zp_M P2, n) = _ from e3, zs_cI, Option.bind_some]
      show some (some (Value.int (_ + _)), _) = some (some (Value.int (_ + (if ygl T V p g w < ylm T p then _ else _))), _)
      rw [if_pos q]
    · refine ⟨P2, ?_, yF_t f1 f2⟩
      rw [hs, if_neg (show ¬ zq_min 99 (g + yld T V p g w) < ylm T p from q)]
      show some (some (Value.int (_ + a - yoh a c)), _) = some (some (Value.int (_ + (if ygl T V p g w < ylm T p then _ else _))), _)
      rw [if_neg q]
      exact congrArg (fun v => some (some (Value.int v), ((zp_M P2, n) : zk_S))) (zi_as _ _ _)
theorem yF_5 {P P' : zp} {ks : List Nat} {fs : List (Nat × Nat)} (f : yF fs ks P P') (h : ∀ x, x ∈ fs → x ∈ [(269, 32)]) (hk : ∀ k, k ∈ ks → k ∈ yr5) : yF [(269, 32)] yr5 P P' := yF_m f h hk
set_option maxHeartbeats 1000000 in
theorem zs_Rodds {p : Nat} {c : Int32} (hp : p < T.1) (h6 : T.1 ≤ 6) : ∀ (m dp k : Nat) (g a : Int32) (V' : yV) (P : zp), dp + m ≤ 6 → yTR P T → yR (P.2.1 286) V' → yO T.1 V' → ySm T V p V' k g → V.2.2.2 + k + m ≤ 1900 → ∃ P', zk_sm (d + m + 10) m_R_oddsFrom [.ref 269, .int (zi dp), .int (zi p), .int (zi m), .int c, .int a] (zp_M P, n) = some (some (.int (bif ybr V p then yod T V p c m g (V.2.2.2 + k) a else 0)), (zp_M P', n)) ∧ yF [(269, 32)] yrt P P' ∧ (∀ j, j < 40 * dp → P'.2.1 290 j = P.2.1 290 j)
  | 0, dp, k, g, a, V', P, hd, hT, hR, hO, hS, hw => by
    refine ⟨P, ?_, yF_r, fun _ _ => rfl⟩
    rw [e_R_oddsFrom, if_pos (show zi 0 = 0 from rfl)]
    cases ybr V p <;> rfl
  | m + 1, dp, k, g, a, V', P, hd, hT, hR, hO, hS, hw => by
    have hwk := hS.2.1
    obtain ⟨P1, e1, f1, a1, b1⟩ := zs_RputAside (P := P) (n := n) (d := d + m + 10) (k := dp) (by omega)
    have T1 : yTR P1 T := yTR_F (by decide) f1 hT
    have R1 : yR (P1.2.1 286) V' := by rw [f1.2.1 286 (by decide)]; exact hR
    obtain ⟨P2, e2, r2, w2, f2, k2⟩ := zs_Rlive (d := d + m + 1) (n := n) (x := zi p) (e := p) T1 (by omega) R1 hO (fun p' hp' => zi_eq (by omega) (by omega))
    have ht2 : yst1 T V' p p = (zq_max 0 (V'.2.1 p - T.2.2.2.2.1), false) := if_pos (Or.inl rfl)
    have S2 := ySm_s (e := p) hp hS (by rw [ht2])
    rw [ht2, hS.2.2] at S2
    obtain ⟨P3, e3, f3, b3⟩ := zs_Rodds hp h6 m (dp + 1) (k + 1) (zq_max 0 (g - T.2.2.2.2.1)) (yoh a c) (ywk T V' p) P2 (by omega) (yTR_1 f2 T1) r2 (ywk_O hO (by omega)) S2 (by omega)
    obtain ⟨P4, e4, f4, a4, b4⟩ := zs_RtakeBack (P := P3) (n := n) (d := d + m + 10) (k := dp) (by omega)
    have h3 : ∀ j, j < 40 → P3.2.1 290 (40 * dp + j) = P.2.1 286 j := fun j hj => by rw [b3 _ (by omega), f2.2.1 290 (by decide), a1 j hj]
    have T4 : yTR P4 T := yTR_F (by decide) f4 (yTR_F (by decide) f3 (yTR_1 f2 T1))
    have R4 : yR (P4.2.1 286) V' := yR_b (fun j hj => by rw [a4 j hj, h3 j hj]) hR
    obtain ⟨P5, e5, r5, w5, f5, k5⟩ := zs_Rlive (d := d + m + 1) (n := n) (x := -1) (e := 99) T4 (by omega) R4 hO (fun p hp => ⟨fun z => absurd z (zi_n1 (by omega)), fun z => by omega⟩)
    have g1 : yF [(269, 32)] yr5 P P1 := yF_5 f1 (fun _ h => by cases h) (fun k hk => by simp only [List.mem_cons, List.not_mem_nil, or_false] at hk ⊢; omega)
    have g2 : yF [(269, 32)] yr5 P1 P2 := yF_5 f2 (fun _ h => h) (fun k hk => by simp only [List.mem_cons, List.not_mem_nil, or_false] at hk ⊢; omega)
    have g3 : yF [(269, 32)] yr5 P2 P3 := yF_5 f3 (fun _ h => h) (fun k hk => by simp only [List.mem_cons, List.not_mem_nil, or_false] at hk ⊢; omega)
    have g4 : yF [(269, 32)] yr5 P3 P4 := yF_5 f4 (fun _ h => by cases h) (fun k hk => by simp only [List.mem_cons, List.not_mem_nil, or_false] at hk ⊢; omega)
    have g5 : yF [(269, 32)] yr5 P4 P5 := yF_5 f5 (fun _ h => h) (fun k hk => by simp only [List.mem_cons, List.not_mem_nil, or_false] at hk ⊢; omega)
    have gg := yF_t g1 (yF_t g2 (yF_t g3 (yF_t g4 g5)))
    have h5 : ∀ j, j < 40 → P5.2.1 290 (40 * dp + j) = P.2.1 286 j := fun j hj => by rw [f5.2.1 290 (by decide), f4.2.1 290 (by decide), h3 j hj]
    have l5 : ∀ j, j < 40 * dp → P5.2.1 290 j = P.2.1 290 j := fun j hj => by rw [f5.2.1 290 (by decide), f4.2.1 290 (by decide), b3 _ (by omega), f2.2.1 290 (by decide), b1 j (Or.inl hj)]
    have u5 : ∀ j, 40 ≤ j → P5.2.1 286 j = P.2.1 286 j := fun j hj => by rw [k5 j hj, b4 j hj, f3.2.1 286 (by decide), k2 j hj, f1.2.1 286 (by decide)]
    have em : zi (m + 1) - 1 = zi m := zi_d (by omega)
    have hs : zk_sm (d + (m + 1) + 10) m_R_oddsFrom [.ref 269, .int (zi dp), .int (zi p), .int (zi (m + 1)), .int c, .int a] (zp_M P, n) = _ := e_R_oddsFrom (d + m + 10) 269 (zi dp) (zi p) (zi (m + 1)) c a (zp_M P, n)
    rw [if_neg (fun z => by have := (zi_eq (b := 0) (by omega) (by decide)).mp z; omega), zp_Rv, Option.bind_some, e1, zs_cV, Option.bind_some, zp_Rv, Option.bind_some, show zk_sm (d + m + 10) m_R_live _ (zp_M P1, n) = _ from e2, zs_cV, Option.bind_some, zp_Rv, Option.bind_some, em, zi_s, e3, zs_cI, Option.bind_some, zp_Rv, Option.bind_some, e4, zs_cV, Option.bind_some, zp_Rv, Option.bind_some, show zk_sm (d + m + 10) m_R_live _ (zp_M P4, n) = _ from e5, zs_cV, Option.bind_some, zp_R32, Option.bind_some, w5, zs_Rhas, zs_cI, Option.bind_some, zp_ib, yb_tw h6 hp] at hs
    have last : ∀ P6 : zp, yF [(269, 32)] yr5 P P6 → (∀ j, j < 40 * dp + 40 → P6.2.1 290 j = P5.2.1 290 j) → P6.2.1 286 = P5.2.1 286 ∨ (∀ j, 40 ≤ j → P6.2.1 286 j = P5.2.1 286 j) → ∃ P7, zk_sm (d + m + 10) m_R_takeBack [.ref 269, .int (zi dp)] (zp_M P6, n) = some (none, (zp_M P7, n)) ∧ yF [(269, 32)] yrt P P7 ∧ (∀ j, j < 40 * dp → P7.2.1 290 j = P.2.1 290 j) := by
      intro P6 g6 b6 h6'
      obtain ⟨P7, e7, f7, a7, b7⟩ := zs_RtakeBack (P := P6) (n := n) (d := d + m + 10) (k := dp) (by omega)
      have g7 : yF [(269, 32)] yr5 P P7 := yF_t g6 (yF_5 f7 (fun _ h => by cases h) (fun k hk => by simp only [List.mem_cons, List.not_mem_nil, or_false] at hk ⊢; omega))
      have h286 : P7.2.1 286 = P.2.1 286 := by
        funext j
        by_cases q : j < 40
        · rw [a7 j q, b6 _ (by omega), h5 j q]
        · rw [b7 j (by omega), ← u5 j (by omega)]
          rcases h6' with h | h
          · rw [h]
          · exact h j (by omega)
      refine ⟨P7, e7, yF_x g7 (fun k hk hk' => ?_), fun j hj => by rw [f7.2.1 290 (by decide), b6 j (by omega), l5 j hj]⟩
      have : k = 286 := by simp only [List.mem_cons, List.not_mem_nil, or_false] at hk hk'; omega
      rw [this]; exact h286
    cases ht : (yst1 T V' 99 p).2 with
    | false =>
      obtain ⟨P6, e6, f6, b6⟩ := zs_Rodds hp h6 m (dp + 1) (k + 1) (yst1 T V' 99 p).1 (a - yoh a c) (ywk T V' 99) P5 (by omega) (yTR_1 f5 T4) r5 (ywk_O hO (by omega)) (ySm_s hp hS ht) (by omega)
      obtain ⟨P7, e7, f7, b7⟩ := last P6 (yF_t gg (yF_5 f6 (fun _ h => h) (fun k hk => by simp only [List.mem_cons, List.not_mem_nil, or_false] at hk ⊢; omega))) (fun j hj => b6 j (by omega)) (Or.inl (f6.2.1 286 (by decide)))
      refine ⟨P7, ?_, f7, b7⟩
      rw [hs, ht, cond_false, zp_Rv, Option.bind_some, e6, zs_cI, Option.bind_some, zp_Rv, Option.bind_some, e7, zs_cV, Option.bind_some]
      cases hb : ybr V p with
      | false => rfl
      | true =>
        have h3' := ySm_t hS hb (e := 99) (by omega)
        have q : ygl T V p g (V.2.2.2 + k) < ylm T p := by
          by_cases q : ygl T V p g (V.2.2.2 + k) < ylm T p
          · exact q
          · rw [if_neg q] at h3'; rw [h3'] at ht; cases ht
        rw [if_pos q] at h3'
        rw [h3', cond_true, cond_true, cond_true]
        show some (some (Value.int (0 + _ + _)), _) = some (some (Value.int (_ + (if ygl T V p g (V.2.2.2 + k) < ylm T p then _ else _))), _)
        rw [if_pos q, Int32.zero_add]
        rfl
    | true =>
      obtain ⟨P7, e7, f7, b7⟩ := last P5 gg (fun _ _ => rfl) (Or.inl rfl)
      refine ⟨P7, ?_, f7, b7⟩
      have hb : ybr V p = true := by
        cases hb : ybr V p with
        | true => rfl
        | false => rw [ySm_n hS hb] at ht; cases ht
      have h3' := ySm_t hS hb (e := 99) (by omega)
      have q : ¬ ygl T V p g (V.2.2.2 + k) < ylm T p := fun q => by
        rw [if_pos q] at h3'; rw [h3'] at ht; cases ht
      rw [hs, ht, cond_true, zp_Rv, Option.bind_some, e7, zs_cV, Option.bind_some, hb, cond_true, cond_true]
      show some (some (Value.int (0 + _ + _)), _) = some (some (Value.int (_ + (if ygl T V p g (V.2.2.2 + k) < ylm T p then _ else _))), _)
      rw [if_neg q, Int32.zero_add]
      rfl
theorem yc_odds (hI : yI P n.1) {p x c : Int32} : yOK (d + 20) P n m_SaddlerKnows_odds m_R_odds [.int p, .int x, .int c] := by
  obtain ⟨h0, T, V, nl, L, c0, hP⟩ := id hI
  have hT := hP.1.1
  have hR := hP.1.2.1
  have h6 := hT.2.1
  have hC := hP.2.1.1
  have hO := hP.2.1.2.2.1
  have hw9 := hP.2.1.2.2.2.1.2.2
  have hin6 : ∀ s : zk_S, zk_sm (d + 19) m_R_in [.int x, .int 0, .int 6] s = some (some (.int (zp_b (!decide (x < 0) && !decide (6 < x)))), s) := fun s => zs_Rin
  have hin100 : ∀ s : zk_S, zk_sm (d + 19) m_R_in [.int c, .int 0, .int 100] s = some (some (.int (zp_b (!decide (c < 0) && !decide (100 < c)))), s) := fun s => zs_Rin
  cases h : yrg T.1 p with
  | false =>
    refine yOK_q (v := -1) (P1 := P) (P2 := P) ?_ ?_ hI
    · rw [e_SaddlerKnows_odds, zp_Cv, Option.bind_some, yg_pers hT, h, zs_cI, Option.bind_some, zp_ib, cond_false]
    · rw [e_R_odds, zp_Rv, Option.bind_some, yg_Rpers hR, h, zs_cI, Option.bind_some, zp_ib, cond_false]
  | true =>
    obtain ⟨a, ha, rfl⟩ := yrg_o h
    by_cases q1 : x < 0
    · refine yOK_q (v := -1) (P1 := P) (P2 := P) ?_ ?_ hI
      · rw [e_SaddlerKnows_odds, zp_Cv, Option.bind_some, yg_pers hT, h, zs_cI, Option.bind_some, zp_ib, cond_true, if_pos q1]
      · rw [e_R_odds, zp_Rv, Option.bind_some, yg_Rpers hR, h, zs_cI, Option.bind_some, zp_ib, cond_true, hin6, decide_eq_true q1, zs_cI, Option.bind_some, zp_ib, Bool.not_true, Bool.false_and, cond_false]
    · by_cases q2 : 6 < x
      · refine yOK_q (v := -1) (P1 := P) (P2 := P) ?_ ?_ hI
        · rw [e_SaddlerKnows_odds, zp_Cv, Option.bind_some, yg_pers hT, h, zs_cI, Option.bind_some, zp_ib, cond_true, if_neg q1, if_pos q2]
        · rw [e_R_odds, zp_Rv, Option.bind_some, yg_Rpers hR, h, zs_cI, Option.bind_some, zp_ib, cond_true, hin6, decide_eq_false q1, decide_eq_true q2, zs_cI, Option.bind_some, zp_ib, Bool.not_true, Bool.and_false, cond_false]
      · by_cases q3 : c < 0
        · refine yOK_q (v := -1) (P1 := P) (P2 := P) ?_ ?_ hI
          · rw [e_SaddlerKnows_odds, zp_Cv, Option.bind_some, yg_pers hT, h, zs_cI, Option.bind_some, zp_ib, cond_true, if_neg q1, if_neg q2, if_pos q3]
          · rw [e_R_odds, zp_Rv, Option.bind_some, yg_Rpers hR, h, zs_cI, Option.bind_some, zp_ib, cond_true, hin6, decide_eq_false q1, decide_eq_false q2, zs_cI, Option.bind_some, zp_ib, Bool.not_false, Bool.true_and, cond_true, hin100, decide_eq_true q3, zs_cI, Option.bind_some, zp_ib, Bool.not_true, Bool.false_and, cond_false]
        · by_cases q4 : 100 < c
          · refine yOK_q (v := -1) (P1 := P) (P2 := P) ?_ ?_ hI
            · rw [e_SaddlerKnows_odds, zp_Cv, Option.bind_some, yg_pers hT, h, zs_cI, Option.bind_some, zp_ib, cond_true, if_neg q1, if_neg q2, if_neg q3, if_pos q4]
            · rw [e_R_odds, zp_Rv, Option.bind_some, yg_Rpers hR, h, zs_cI, Option.bind_some, zp_ib, cond_true, hin6, decide_eq_false q1, decide_eq_false q2, zs_cI, Option.bind_some, zp_ib, Bool.not_false, Bool.true_and, cond_true, hin100, decide_eq_false q3, decide_eq_true q4, zs_cI, Option.bind_some, zp_ib, Bool.not_true, Bool.and_false, cond_false]
          · obtain ⟨m, hm, rfl⟩ := zi_r q1
            have hm6 : m ≤ 6 := by
              by_cases z : m ≤ 6
              · exact z
              · exact absurd ((zi_l (i := 6) (by decide) hm).mpr (by omega)) q2
            have eg : zp_gt P 39 6 (zi a) = V.2.1 a := yC_g (b := 35) hC (by omega)
            have h5 : P.1 35 5 = zi V.2.2.2 := hC.2.2.2
            have er : ∀ P1 : zp, yTR P1 T → yR (P1.2.1 286) V → ∃ P2, zk_sm (d + 20) m_R_odds [.ref 269, .int (zi a), .int (zi m), .int c] (zp_M P1, n) = some (some (.int (bif ybr V a then yod T V a c m (V.2.1 a) V.2.2.2 1000000000 else 0)), (zp_M P2, n)) ∧ yF [(269, 32)] yrt P1 P2 := by
              intro P1 hT1 hR1
              obtain ⟨P2, e2, f2, -⟩ := zs_Rodds (d := d + (9 - m)) (n := n) (c := c) (V := V) ha h6 m 0 0 (V.2.1 a) 1000000000 V P1 (by omega) hT1 hR1 hO ySm_0 (by omega)
              rw [show d + (9 - m) + m + 10 = d + 19 by omega] at e2
              refine ⟨P2, ?_, f2⟩
              rw [e_R_odds, zp_Rv, Option.bind_some, yg_Rpers hT1, h, zs_cI, Option.bind_some, zp_ib, cond_true, hin6, decide_eq_false q1, decide_eq_false q2, zs_cI, Option.bind_some, zp_ib, Bool.not_false, Bool.true_and, cond_true, hin100, decide_eq_false q3, decide_eq_false q4, zs_cI, Option.bind_some, zp_ib, Bool.not_false, Bool.true_and, cond_true, zp_Rv, Option.bind_some, show zk_sm (d + 19) m_R_oddsFrom [.ref 269, .int 0, .int (zi a), .int (zi m), .int c, .int 1000000000] (zp_M P1, n) = _ from e2, zs_cI, Option.bind_some]
              rfl
            cases hb : ybr V a with
            | false =>
              obtain ⟨P2, e2, f2⟩ := er P hR hP.2.1.2.1
              rw [hb, cond_false] at e2
              refine yOK_q (v := 0) (P1 := P) ?_ e2 ⟨h0, T, V, nl, L, c0, yP_F ySc_t f2 hP⟩
              rw [e_SaddlerKnows_odds, zp_Cv, Option.bind_some, yg_pers hT, h, zs_cI, Option.bind_some, zp_ib, cond_true, if_neg q1, if_neg q2, if_neg q3, if_neg q4, zp_C5, Option.bind_some, zp_sv zs_35, Option.bind_some, zs_bears zs_35 hC hO h6 (by omega), hb, zs_cI, Option.bind_some, zp_ib, cond_false]
            | true =>
              obtain ⟨P1, e1, f1⟩ := zs_parts (d := d + (11 - m)) (n := n) (c := c) hO ha m V.2.2.2 (V.2.1 a) 1000000000 P hT hC (by omega)
              rw [show d + (11 - m) + m + 8 = d + 19 by omega] at e1
              have hP1 := yP_F ySc_0 f1 hP
              obtain ⟨P2, e2, f2⟩ := er P1 hP1.1.2.1 hP1.2.1.2.1
              rw [hb, cond_true] at e2
              refine yOK_q (P1 := P1) ?_ e2 ⟨h0, T, V, nl, L, c0, yP_F ySc_t f2 hP1⟩
              rw [e_SaddlerKnows_odds, zp_Cv, Option.bind_some, yg_pers hT, h, zs_cI, Option.bind_some, zp_ib, cond_true, if_neg q1, if_neg q2, if_neg q3, if_neg q4, zp_C5, Option.bind_some, zp_sv zs_35, Option.bind_some, zs_bears zs_35 hC hO h6 (by omega), hb, zs_cI, Option.bind_some, zp_ib, cond_true, zp_C5, Option.bind_some, zp_s3 zs_35, Option.bind_some, zs_at (zp_sb_t zs_35).2.2.2.2 (by decide), zs_cI, Option.bind_some, eg, zp_C5, Option.bind_some, zp_s5 zs_35, Option.bind_some, h5, zp_Cv, Option.bind_some, e1, zs_cI, Option.bind_some]
end
