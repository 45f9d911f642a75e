/-! PARSING 14: laws: clauses one behind another -/
section
variable {n : Nat × Nat} {L len m : Nat} {xs : Nat → Int32} {B : Nat → Nat}
set_option maxHeartbeats 4000000 in
theorem yR_clause (hB : ∀ i, i < len → 1 ≤ B i ∧ B i < 256) (h240 : len ≤ 240) (hm : m ≤ len) : ∃ o : yPc, yCl n L xs B len m o := by
  have sg := @ysk_ge B len m
  have sl := ysk_le (B := B) hm
  by_cases hy : yhb B len (ysk B len m) = 121
  · have hlt : ysk B len m < len := yhb_lt hy (by decide)
    have sg1 := @ysk_ge B len (ysk B len m + 1)
    have sl1 := ysk_le (B := B) (show ysk B len m + 1 ≤ len from hlt)
    by_cases hc : yhb B len (ysk B len (ysk B len m + 1)) = 58
    · have hlt1 : ysk B len (ysk B len m + 1) < len := yhb_lt hc (by decide)
      have sg2 := @ysk_ge B len (ysk B len (ysk B len m + 1) + 1)
      have sl2 := ysk_le (B := B) (show ysk B len (ysk B len m + 1) + 1 ≤ len from hlt1)
      obtain ⟨o, ⟨a1, a2⟩, oC, oR⟩ := yR_clause2 (n := n) (L := L) (xs := xs) hB h240 sl2 ysk_2
      refine ⟨o, ⟨a1, fun T S h => ?_⟩, fun P u e he hP => ?_, fun Q n c t q0 e he hQ h4 hq0 => ?_⟩
      · obtain ⟨b1, b2, b3⟩ := a2 T S h
        exact ⟨by omega, b2, b3⟩
      · obtain ⟨e, rfl⟩ : ∃ e', e = e' + 2 := ⟨e - 2, by omega⟩
        obtain ⟨c1, c2, c3, c4, c5, c6⟩ := hP
        obtain ⟨P1, e1, g1, f1⟩ := zs_takes (d := e) (n := n) (c := 121) c1 c2 c3
        rw [decide_eq_true hy] at e1
        rw [if_pos hy] at g1
        have T1 := yTp_F (by decide) (by decide) f1 c1
        obtain ⟨P2, e2, g2, f2⟩ := zs_takes (d := e) (n := n) (c := 58) T1 g1 hlt
        rw [decide_eq_true hc] at e2
        rw [if_pos hc] at g2
        have T2 := yTp_F (by decide) (by decide) f2 T1
        obtain ⟨P3, e3, g3, f3⟩ := zs_sign (d := e + 1) (n := n) T2 g2 hlt1
        have T3 := yTp_F (by decide) (by decide) f3 T2
        have f13 := yF_t f1 (yF_t f2 f3)
        obtain ⟨P4, e4, F4, g4, E4, X4⟩ := oC P3 u (e + 1) (by omega) ⟨T3, g3, sl2, (f13.1 24 1 (by decide)).trans c4, by omega, zk_sm_k e3 (zk_sm_k e2 (zk_sm_k e1 c6))⟩ (by omega)
        refine ⟨P4, ?_, yF_t (yF_p1 f13) F4, g4, E4, fun T S h => ?_⟩
        · rw [e_LawReader_readsClause, zp_Y2, Option.bind_some, zp_Pv', Option.bind_some, e1, zs_cI, Option.bind_some, zp_ib, cond_true, zp_Y2, Option.bind_some, zp_Pv', Option.bind_some, e2, zs_cI, Option.bind_some, zp_ib, cond_true, zp_Y2, Option.bind_some, zp_Pv', Option.bind_some, e3, zs_cI, Option.bind_some]
          by_cases z33 : yhb B len (ysk B len (ysk B len (ysk B len m + 1) + 1)) = 33
          · rw [if_pos (Or.inl z33)] at e4
            rw [if_pos z33, zp_Yv, Option.bind_some]
            exact e4
          · rw [if_neg z33]
            by_cases z40 : yhb B len (ysk B len (ysk B len (ysk B len m + 1) + 1)) = 40
            · rw [if_pos (Or.inr z40)] at e4
              rw [if_pos z40, zp_Yv, Option.bind_some]
              exact e4
            · rw [if_neg (fun z => z.elim z33 z40)] at e4
              rw [if_neg z40, zp_Yv, Option.bind_some]
              exact e4
        · obtain ⟨x1, x2, x3⟩ := X4 T S h
          exact ⟨x1, x2, fun j hj => by rw [x3 j hj, f13.2.1 25 (by decide)]⟩
      · obtain ⟨e, rfl⟩ : ∃ e', e = e' + 2 := ⟨e - 2, by omega⟩
        obtain ⟨q1, q2, q3, q4, q5, q6, q7, q8, q9⟩ := hQ
        obtain ⟨Q1, e1, g1, f1⟩ := zs_Rlook (d := e) (n := n) q1 q2 (by omega)
        obtain ⟨Q2, hQ2⟩ : ∃ Q2, Q2 = zp_sF Q1 269 3 (zi (ysk B len m + 1)) := ⟨_, rfl⟩
        have f2 : yF [(269, 3)] [] Q Q2 := yF_t f1 (by rw [hQ2]; exact yF_f (by decide))
        have m2 : Q2.1 269 3 = zi (ysk B len m + 1) := by rw [hQ2]; exact zp_f9
        have w2 : Q2.1 269 4 = -1 := (f2.1 269 4 (by decide)).trans q4
        obtain ⟨Q3, e3, g3, f3⟩ := zs_Rlook (d := e) (n := n) (yTq_F (by decide) (by decide) f2 q1) m2 (by omega)
        obtain ⟨Q4, hQ4⟩ : ∃ Q4, Q4 = zp_sF Q3 269 3 (zi (ysk B len (ysk B len m + 1) + 1)) := ⟨_, rfl⟩
        have f4 : yF [(269, 3)] [] Q Q4 := yF_t f2 (yF_t f3 (by rw [hQ4]; exact yF_f (by decide)))
        have m4 : Q4.1 269 3 = zi (ysk B len (ysk B len m + 1) + 1) := by rw [hQ4]; exact zp_f9
        have w4 : Q4.1 269 4 = -1 := (f4.1 269 4 (by decide)).trans q4
        have t4 : Q4.1 269 14 = zi t := (f4.1 269 14 (by decide)).trans q6
        have c4 : Q4.2.1 273 t = zi c := by rw [f4.2.1 273 (by decide)]; exact q8
        obtain ⟨Q5, hQ5⟩ : ∃ Q5, Q5 = zp_sA Q4 275 (140 * t + q0) (zi c) := ⟨_, rfl⟩
        have F5 : yF yfQ ykC Q Q5 := yF_t (yF_C (yF_q3 f4)) (by rw [hQ5]; exact yF_A (by decide))
        have K5 : yKc t q0 c Q Q5 := yKc_t (Nat.le_refl c) (yKc_0 f4) (by rw [hQ5]; exact yKc_5)
        have m5 : Q5.1 269 3 = zi (ysk B len (ysk B len m + 1) + 1) := by rw [hQ5]; exact m4
        obtain ⟨Q6, e6, g6, f6⟩ := zs_Rlook (d := e) (n := n) (yTq_F (by decide) (by decide) F5 q1) m5 (by omega)
        have F6 := yF_t F5 (yF_C (yF_q3 f6))
        obtain ⟨Q7, e7, g7, f7⟩ := zs_Rlook (d := e) (n := n) (yTq_F (by decide) (by decide) F6 q1) g6 (by omega)
        rw [ysk_2] at e7 g7
        have hs := e_R_clause (e + 1) 269 (zp_M Q, n)
        rw [zp_R14', Option.bind_some, q6, zp_R9', Option.bind_some, Option.bind_some, zp_ldi zp_a274 q7 (by decide), Option.bind_some, h4, zp_R4', Option.bind_some, q4, if_pos rfl, zp_Rv, Option.bind_some, e1, zs_cI, Option.bind_some, if_pos hy, zp_R3', Option.bind_some, g1, zi_s, zp_R3p, Option.bind_some, ← hQ2, zp_R4', Option.bind_some, w2, if_pos rfl, zp_Rv, Option.bind_some, e3, zs_cI, Option.bind_some, if_pos hc, zp_R3', Option.bind_some, g3, zi_s, zp_R3p, Option.bind_some, ← hQ4, zp_R4', Option.bind_some, w4, if_pos rfl, zp_R10', Option.bind_some, zp_R8', Option.bind_some, zp_R14', Option.bind_some, t4, zp_ldi zp_a273 q7 (by decide), Option.bind_some, c4, zi_140, zp_sti zp_a275 (show 140 * t + q0 < 700 by omega) (by decide), Option.bind_some, ← hQ5, zp_Rv, Option.bind_some, e6, zs_cI, Option.bind_some] at hs
        have end8 : ∀ (Q8 : zp), yF yfQ ykC Q Q8 → yKc t q0 c Q Q8 → yF [(269, 3)] [] Q5 Q8 → Q8.1 269 3 = zi (ysk B len (ysk B len (ysk B len m + 1) + 1)) → zk_sm (e + 2) m_R_clause [.ref 269] (zp_M Q, n) = zk_sf (e + 2) m_R_clause 128 [.ref 269, .int (zi (140 * t + q0)), .retAddr 0] [.int (if yhb B len (ysk B len (ysk B len (ysk B len m + 1) + 1)) = 33 ∨ yhb B len (ysk B len (ysk B len (ysk B len m + 1) + 1)) = 40 then 1 else 0)] (zp_M Q8, n) → ∃ Q', zk_sm (e + 2) m_R_clause [.ref 269] (zp_M Q, n) = some (none, (zp_M Q', n)) ∧ yF yfQ ykC Q Q' ∧ yKc t q0 c Q Q' ∧ yqc t c q0 o Q' ∧ ∀ T S, o.2 = some (T, S) → yps Q' t c (T ++ S) := fun Q8 F8 K8 f58 g8 he8 => by
          have w5 : Q5.1 269 4 = -1 := by rw [hQ5]; exact w4
          have d5 : Q5.1 269 5 = zi 0 := by rw [hQ5]; exact (f4.1 269 5 (by decide)).trans q5
          have t5 : Q5.1 269 14 = zi t := by rw [hQ5]; exact t4
          obtain ⟨Q9, e9, F9, K9, s9, p9⟩ := oR Q8 n c t q0 (e + 1) (by omega) ⟨yTq_F (by decide) (by decide) F8 q1, g8, sl2, (f58.1 269 4 (by decide)).trans w5, (f58.1 269 5 (by decide)).trans d5, (f58.1 269 14 (by decide)).trans t5, q7, by rw [f58.2.1 273 (by decide), hQ5, zp_a7 (by decide)]; exact c4, by omega⟩ (by rw [f58.2.1 274 (by decide), hQ5, zp_a7 (by decide), f4.2.1 274 (by decide)]; exact h4) hq0 (by rw [f58.2.1 275 (by decide), hQ5]; exact zp_a9)
          exact ⟨Q9, he8.trans e9, yF_t F8 F9, yKc_t (Nat.le_refl c) K8 K9, s9, p9⟩
        by_cases z33 : yhb B len (ysk B len (ysk B len (ysk B len m + 1) + 1)) = 33
        · rw [if_pos z33] at hs
          exact end8 Q6 F6 (yKc_t (Nat.le_refl c) K5 (yKc_0 f6)) f6 g6 (by rw [if_pos (Or.inl z33)]; exact hs)
        · rw [if_neg z33, zp_Rv, Option.bind_some, e7, zs_cI, Option.bind_some] at hs
          refine end8 Q7 (yF_t F6 (yF_C (yF_q3 f7))) (yKc_t (Nat.le_refl c) K5 (yKc_t (Nat.le_refl c) (yKc_0 f6) (yKc_0 f7))) (yF_t f6 f7) g7 ?_
          by_cases z40 : yhb B len (ysk B len (ysk B len (ysk B len m + 1) + 1)) = 40
          · rw [if_pos z40] at hs
            rw [if_pos (Or.inr z40)]; exact hs
          · rw [if_neg z40] at hs
            rw [if_neg (fun z => z.elim z33 z40)]; exact hs
    · refine ⟨(ysk B len (ysk B len m + 1), none), ⟨sl1, fun T S h => by cases h⟩, fun P u e he hP => ?_, fun Q n c t q0 e he hQ h4 hq0 => ?_⟩
      · obtain ⟨e, rfl⟩ : ∃ e', e = e' + 2 := ⟨e - 2, by omega⟩
        obtain ⟨c1, c2, c3, c4, c5, c6⟩ := hP
        obtain ⟨P1, e1, g1, f1⟩ := zs_takes (d := e) (n := n) (c := 121) c1 c2 c3
        rw [decide_eq_true hy] at e1
        rw [if_pos hy] at g1
        have T1 := yTp_F (by decide) (by decide) f1 c1
        obtain ⟨P2, e2, g2, f2⟩ := zs_takes (d := e) (n := n) (c := 58) T1 g1 hlt
        rw [decide_eq_false hc] at e2
        rw [if_neg hc] at g2
        refine ⟨P2, ?_, yF_p1 (yF_t f1 f2), g2, zk_sm_k e2 (zk_sm_k e1 c6), fun T S h => by cases h⟩
        rw [e_LawReader_readsClause, zp_Y2, Option.bind_some, zp_Pv', Option.bind_some, e1, zs_cI, Option.bind_some, zp_ib, cond_true, zp_Y2, Option.bind_some, zp_Pv', Option.bind_some, e2, zs_cI, Option.bind_some, zp_ib, cond_false]
        rfl
      · obtain ⟨e, rfl⟩ : ∃ e', e = e' + 2 := ⟨e - 2, by omega⟩
        obtain ⟨q1, q2, q3, q4, q5, q6, q7, q8, q9⟩ := hQ
        obtain ⟨Q1, e1, g1, f1⟩ := zs_Rlook (d := e) (n := n) q1 q2 (by omega)
        obtain ⟨Q2, hQ2⟩ : ∃ Q2, Q2 = zp_sF Q1 269 3 (zi (ysk B len m + 1)) := ⟨_, rfl⟩
        have f2 : yF [(269, 3)] [] Q Q2 := yF_t f1 (by rw [hQ2]; exact yF_f (by decide))
        have m2 : Q2.1 269 3 = zi (ysk B len m + 1) := by rw [hQ2]; exact zp_f9
        have w2 : Q2.1 269 4 = -1 := (f2.1 269 4 (by decide)).trans q4
        obtain ⟨Q3, e3, g3, f3⟩ := zs_Rlook (d := e) (n := n) (yTq_F (by decide) (by decide) f2 q1) m2 (by omega)
        have w3 : Q3.1 269 4 = -1 := (f3.1 269 4 (by decide)).trans w2
        obtain ⟨Q5, hQ5⟩ : ∃ Q5, Q5 = zp_sF (zp_sF Q3 269 4 (zi (ysk B len (ysk B len m + 1)))) 269 3 (zi (ysk B len (ysk B len m + 1) + 1)) := ⟨_, rfl⟩
        have f5 : yF yfQ [] Q3 Q5 := by rw [hQ5]; exact yF_t (yF_f (by decide)) (yF_f (by decide))
        have w5 : Q5.1 269 4 = zi (ysk B len (ysk B len m + 1)) := by rw [hQ5]; exact (zp_f8 (by decide)).trans zp_f9
        refine ⟨Q5, ?_, yF_t (yF_C (yF_q3 f2)) (yF_t (yF_C (yF_q3 f3)) (yF_C (yF_q0 f5))), yKc_t (Nat.le_refl c) (yKc_0 f2) (yKc_t (Nat.le_refl c) (yKc_0 f3) (yKc_0 f5)), w5, fun T S h => by cases h⟩
        rw [e_R_clause, zp_R14', Option.bind_some, q6, zp_R9', Option.bind_some, Option.bind_some, zp_ldi zp_a274 q7 (by decide), Option.bind_some, h4, zp_R4', Option.bind_some, q4, if_pos rfl, zp_Rv, Option.bind_some, e1, zs_cI, Option.bind_some, if_pos hy, zp_R3', Option.bind_some, g1, zi_s, zp_R3p, Option.bind_some, ← hQ2, zp_R4', Option.bind_some, w2, if_pos rfl, zp_Rv, Option.bind_some, e3, zs_cI, Option.bind_some, if_neg hc, zp_Rv, Option.bind_some, zs_Rbad g3 w3, zs_cV, Option.bind_some, zp_R3', Option.bind_some, show (zp_sF Q3 269 4 (zi (ysk B len (ysk B len m + 1)))).1 269 3 = zi (ysk B len (ysk B len m + 1)) from (zp_f8 (by decide)).trans g3, zi_s, zp_R3p, Option.bind_some, ← hQ5, zp_R4', Option.bind_some, w5, if_neg (zi_n1 (by omega))]
  · refine ⟨(ysk B len m, none), ⟨sl, fun T S h => by cases h⟩, fun P u e he hP => ?_, fun Q n c t q0 e he hQ h4 hq0 => ?_⟩
    · obtain ⟨e, rfl⟩ : ∃ e', e = e' + 2 := ⟨e - 2, by omega⟩
      obtain ⟨c1, c2, c3, c4, c5, c6⟩ := hP
      obtain ⟨P1, e1, g1, f1⟩ := zs_takes (d := e) (n := n) (c := 121) c1 c2 c3
      rw [decide_eq_false hy] at e1
      rw [if_neg hy] at g1
      refine ⟨P1, ?_, yF_p1 f1, g1, zk_sm_k e1 c6, fun T S h => by cases h⟩
      rw [e_LawReader_readsClause, zp_Y2, Option.bind_some, zp_Pv', Option.bind_some, e1, zs_cI, Option.bind_some, zp_ib, cond_false]
      rfl
    · obtain ⟨e, rfl⟩ : ∃ e', e = e' + 2 := ⟨e - 2, by omega⟩
      obtain ⟨q1, q2, q3, q4, q5, q6, q7, q8, q9⟩ := hQ
      obtain ⟨Q1, e1, g1, f1⟩ := zs_Rlook (d := e) (n := n) q1 q2 (by omega)
      have w1 : Q1.1 269 4 = -1 := (f1.1 269 4 (by decide)).trans q4
      obtain ⟨Q2, hQ2⟩ : ∃ Q2, Q2 = zp_sF (zp_sF Q1 269 4 (zi (ysk B len m))) 269 3 (zi (ysk B len m + 1)) := ⟨_, rfl⟩
      have f2 : yF yfQ [] Q1 Q2 := by rw [hQ2]; exact yF_t (yF_f (by decide)) (yF_f (by decide))
      have w2 : Q2.1 269 4 = zi (ysk B len m) := by rw [hQ2]; exact (zp_f8 (by decide)).trans zp_f9
      have m2 : Q2.1 269 3 = zi (ysk B len m + 1) := by rw [hQ2]; exact zp_f9
      have f3 : yF yfQ [] Q2 (zp_sF Q2 269 3 (zi (ysk B len m + 1 + 1))) := yF_f (by decide)
      have w3 : (zp_sF Q2 269 3 (zi (ysk B len m + 1 + 1))).1 269 4 = zi (ysk B len m) := (zp_f8 (by decide)).trans w2
      refine ⟨zp_sF Q2 269 3 (zi (ysk B len m + 1 + 1)), ?_, yF_t (yF_C (yF_q3 f1)) (yF_t (yF_C (yF_q0 f2)) (yF_C (yF_q0 f3))), yKc_t (Nat.le_refl c) (yKc_0 f1) (yKc_t (Nat.le_refl c) (yKc_0 f2) (yKc_0 f3)), w3, fun T S h => by cases h⟩
      rw [e_R_clause, zp_R14', Option.bind_some, q6, zp_R9', Option.bind_some, Option.bind_some, zp_ldi zp_a274 q7 (by decide), Option.bind_some, h4, zp_R4', Option.bind_some, q4, if_pos rfl, zp_Rv, Option.bind_some, e1, zs_cI, Option.bind_some, if_neg hy, zp_Rv, Option.bind_some, zs_Rbad g1 w1, zs_cV, Option.bind_some, zp_R3', Option.bind_some, show (zp_sF Q1 269 4 (zi (ysk B len m))).1 269 3 = zi (ysk B len m) from (zp_f8 (by decide)).trans g1, zi_s, zp_R3p, Option.bind_some, ← hQ2, zp_R4', Option.bind_some, w2, if_neg (zi_n1 (by omega)), zp_R3', Option.bind_some, m2, zi_s, zp_R3p, Option.bind_some, zp_R4', Option.bind_some, w3, if_neg (zi_n1 (by omega))]
end
