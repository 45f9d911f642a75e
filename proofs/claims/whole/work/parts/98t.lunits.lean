/-! PARSING 10: laws: units, truths, conditions -/
section
variable {n : Nat × Nat} {L len m dd : Nat} {xs : Nat → Int32} {B : Nat → Nat}
noncomputable abbrev yfU (dd : Nat) : Nat → zk_S → Option zk_R := fun e s => zk_sm e m_LawReader_readsUnit [.ref 24, .int (zi dd), .int 0] s
noncomputable abbrev yfC (dd : Nat) : Nat → zk_S → Option zk_R := fun e s => zk_sm e m_LawReader_readsCondition [.ref 24, .int (zi dd), .int 0] s
noncomputable abbrev yrU : Nat → zk_S → Option zk_R := fun e s => zk_sm e m_R_unit [.ref 269] s
noncomputable abbrev yrC : Nat → zk_S → Option zk_R := fun e s => zk_sm e m_R_condition [.ref 269] s
set_option maxHeartbeats 4000000 in
theorem yR_unit (h240 : len ≤ 240) (hm : m ≤ len) (h6 : dd ≤ 6) (hS : ∀ m', m ≤ m' → m' ≤ len → yRd n L xs B len m' dd (3 * (6 - dd) + 8) m_LawReader_readsSum m_R_sum [.int (zi dd)] (ytyF (2 * dd + 3)))
    (hU : dd < 6 → ∀ m', m < m' → m' ≤ len → yRx n L xs B len m' (dd + 1) (7 * (6 - (dd + 1)) + 12) (yfU (dd + 1)) yrU (ytyT (2 * (dd + 1) + 2)))
    (hC : dd < 6 → ∀ m', m < m' → m' ≤ len → yRx n L xs B len m' (dd + 1) (7 * (6 - (dd + 1)) + 17) (yfC (dd + 1)) yrC (ytyT (2 * (dd + 1)))) : yRx n L xs B len m dd (7 * (6 - dd) + 12) (yfU dd) yrU (ytyT (2 * dd + 2)) := by
  have sg := @ysk_ge B len m
  have sl := ysk_le (B := B) hm
  have startC : ∀ (P : zp) (u e : Nat), yc0 n L xs B len m u P → ∃ P1, zk_sm e m_Tape_sign [.ref 13] (zp_M P, n) = some (some (.int (yhb B len (ysk B len m))), (zp_M P1, n)) ∧ P1.1 13 1 = zi (ysk B len m) ∧ yF [(13, 1)] [] P P1 ∧ yTp P1 B len ∧ P1.1 24 1 = zi u ∧ u ≤ m ∧ zk_kE L xs (zp_M P1, n) := by
    rintro P u e ⟨c1, c2, c3, c4, c5, c6⟩
    obtain ⟨P1, e1, g1, f1⟩ := zs_sign (d := e) (n := n) c1 c2 c3
    exact ⟨P1, e1, g1, f1, yTp_F (by decide) (by decide) f1 c1, (f1.1 24 1 (by decide)).trans c4, c5, zk_sm_k e1 c6⟩
  have startR : ∀ (Q : zp) (n : Nat × Nat) (c t e : Nat), yq0 B len m c dd t Q → ∃ Q1, zk_sm (e + 1) m_R_look [.ref 269] (zp_M Q, n) = some (some (.int (yhb B len (ysk B len m))), (zp_M Q1, n)) ∧ Q1.1 269 3 = zi (ysk B len m) ∧ yF [(269, 3)] [] Q Q1 ∧ yTq Q1 B len ∧ Q1.1 269 4 = -1 ∧ Q1.1 269 5 = zi dd ∧ Q1.1 269 14 = zi t ∧ t < 5 ∧ Q1.2.1 273 t = zi c ∧ c ≤ m := by
    rintro Q n c t e ⟨q1, q2, q3, q4, q5, q6, q7, q8, q9⟩
    obtain ⟨Q1, e1, g1, f1⟩ := zs_Rlook (d := e) (n := n) q1 q2 (by omega)
    exact ⟨Q1, e1, g1, f1, yTq_F (by decide) (by decide) f1 q1, (f1.1 269 4 (by decide)).trans q4, (f1.1 269 5 (by decide)).trans q5, (f1.1 269 14 (by decide)).trans q6, q7, by rw [f1.2.1 273 (by decide)]; exact q8, q9⟩
  -- too deep
  have deep : (yhb B len (ysk B len m) = 33 ∨ yhb B len (ysk B len m) = 40) → dd = 6 → yRx n L xs B len m dd (7 * (6 - dd) + 12) (yfU dd) yrU (ytyT (2 * dd + 2)) := by
    intro hc hd
    subst hd
    have hlt : ysk B len m < len := by
      rcases hc with z | z
      · exact yhb_lt z (by decide)
      · exact yhb_lt z (by decide)
    refine ⟨(ysk B len m, none), ⟨sl, fun X hX => by cases hX⟩, fun P u e he hP => ?_, fun Q n c t e he hQ => ?_⟩
    · obtain ⟨e, rfl⟩ : ∃ e', e = e' + 1 := ⟨e - 1, by omega⟩
      obtain ⟨P1, e1, g1, f1, T1, u1, hum, E1⟩ := startC P u e hP
      refine ⟨P1, ?_, yF_p1 f1, g1, E1, fun X hX => by cases hX⟩
      show zk_sm (e + 1) m_LawReader_readsUnit [.ref 24, .int (zi 6), .int 0] (zp_M P, n) = _
      rw [e_LawReader_readsUnit, zp_Y2, Option.bind_some, zp_Pv', Option.bind_some, e1, zs_cI, Option.bind_some, if_pos rfl]
      rcases hc with z | z
      · rw [if_pos z, if_neg (by decide)]; rfl
      · rw [z, if_neg (show ¬ (40 : Int32) = 33 by decide), if_pos rfl, if_neg (by decide)]; rfl
    · obtain ⟨e, rfl⟩ : ∃ e', e = e' + 2 := ⟨e - 2, by omega⟩
      obtain ⟨Q1, e1, g1, f1, T1, w1, d1, t1, t5, c1, hcm⟩ := startR Q n c t e hQ
      obtain ⟨Q2, e2, g2, w2, F2⟩ := zs_Ropens6 (n := n) (d := e) g1 w1 d1
      have F12 : yF yfQ [] Q Q2 := yF_t (yF_m f1 (fun x hx => by simp only [List.mem_cons, List.not_mem_nil, or_false] at hx ⊢; exact Or.inl hx) (fun _ h => h)) F2
      refine ⟨Q2, ?_, yF_q0 F12, yKp_f F12, fun i _ => by rw [F12.2.1 273 (fun z => by cases z)], w2, ysk B len m + 1, c, _, g2, rfl, by rw [F2.2.1 273 (fun z => by cases z)]; exact c1, by omega, by omega, by omega⟩
      show zk_sm (e + 2) m_R_unit [.ref 269] (zp_M Q, n) = _
      rw [e_R_unit, zp_Rv, Option.bind_some, e1, zs_cI, Option.bind_some]
      rcases hc with z | z
      · rw [if_pos z, zp_Rv, Option.bind_some, e2, zs_cV, Option.bind_some, zp_R4', Option.bind_some, w2, if_neg (zi_n1 (by omega))]
      · rw [z, if_neg (show ¬ (40 : Int32) = 33 by decide), if_pos rfl, zp_Rv, Option.bind_some, e2, zs_cV, Option.bind_some, zp_R4', Option.bind_some, w2, if_neg (zi_n1 (by omega))]
  by_cases h33 : yhb B len (ysk B len m) = 33
  · have hlt : ysk B len m < len := yhb_lt h33 (by decide)
    by_cases hd : dd < 6
    · obtain ⟨o1, ⟨k1, k2⟩, oC, oR⟩ := hU hd (ysk B len m + 1) (by omega) hlt
      have CC : ∀ (P : zp) (u e : Nat), 7 * (6 - dd) + 12 ≤ e + 2 → yc0 n L xs B len m u P → ∃ P1, yF yfP [25] P P1 ∧ yc9x n L xs (zk_sm e m_LawReader_readsUnit [.ref 24, .int (zi (dd + 1)), .int 0] (zp_M P1, n)) u o1 P1 ∧ zk_sm (e + 2) m_LawReader_readsUnit [.ref 24, .int (zi dd), .int 0] (zp_M P, n) = ((zk_cI ((zk_cI (zk_sm e m_LawReader_readsUnit [.ref 24, .int (zi (dd + 1)), .int 0] (zp_M P1, n))).bind fun p6 => if p6.1 = 0 then some (some (.int 0), p6.2) else (zk_rv p6.2 24 2).bind fun _ => (zk_cV (zk_sm e m_LawReader_emit [.ref 24, .int (-33)] p6.2)).bind fun t7 => some (some (.int 1), t7))).bind fun p3 => if p3.1 = 0 then some (some (.int 0), p3.2) else some (some (.int 1), p3.2)) ∧ (∀ j, P1.2.1 25 j = P.2.1 25 j) ∧ u ≤ m := by
        intro P u e he hP
        obtain ⟨P1, e1, g1, f1, T1, u1, hum, E1⟩ := startC P u (e + 1) hP
        obtain ⟨P2, hP2⟩ : ∃ P2, P2 = zp_sF P1 13 1 (zi (ysk B len m + 1)) := ⟨_, rfl⟩
        have es := zs_step (d := e) (n := n) g1
        rw [← hP2] at es
        have f12 : yF [(13, 1)] [] P1 P2 := by rw [hP2]; exact yF_f (by decide)
        have f2 := yF_t f1 f12
        refine ⟨P2, yF_p1 f2, oC P2 u e (by omega) ⟨yTp_F (by decide) (by decide) f12 T1, by rw [hP2]; exact zp_f9, hlt, (f12.1 24 1 (by decide)).trans u1, by omega, zk_sm_k es E1⟩, ?_, fun j => by rw [f2.2.1 25 (by decide)], hum⟩
        rw [e_LawReader_readsUnit, zp_Y2, Option.bind_some, zp_Pv', Option.bind_some, e1, zs_cI, Option.bind_some, if_pos rfl, if_pos h33, if_pos (show zi dd < 6 from (zi_l (m := 6) (by omega) (by decide)).mpr hd), zp_Yv, Option.bind_some, e_LawReader_readsNested, zp_Y2, Option.bind_some, zp_Pv', Option.bind_some, es, zs_cV, Option.bind_some, h33, if_neg (show ¬ (33 : Int32) = 40 by decide), zp_Yv, Option.bind_some, zi_s]
      have RR : ∀ (Q : zp) (n : Nat × Nat) (c t e : Nat), 7 * (6 - dd) + 12 ≤ e + 2 → yq0 B len m c dd t Q → ∃ Q1, yF yfQ [] Q Q1 ∧ yq9 n (zk_sm (e + 1) m_R_unit [.ref 269] (zp_M Q1, n)) len (ysk B len m + 1) c (dd + 1) t o1 Q1 ∧ zk_sm (e + 2) m_R_unit [.ref 269] (zp_M Q, n) = ((zk_cV (zk_sm (e + 1) m_R_unit [.ref 269] (zp_M Q1, n))).bind fun t4 => (zk_rv t4 269 12).bind fun _ => (zk_cV (zk_sm (e + 1) m_R_put [.ref 269, .int (zi 9), .int (zi 0)] t4)).bind fun t5 => (zk_gI t5 269 12 5).bind fun x6 => (zk_pf t5 269 12 5 (.int (x6 - 1))).bind fun t7 => some (none, t7)) ∧ Q1.1 269 14 = zi t ∧ t < 5 ∧ c ≤ m := by
        intro Q n c t e he hQ
        obtain ⟨Q1, e1, g1, f1, T1, w1, d1, t1, t5, c1, hcm⟩ := startR Q n c t e hQ
        obtain ⟨Q2, hQ2⟩ : ∃ Q2, Q2 = zp_sF (zp_sF Q1 269 5 (zi (dd + 1))) 269 3 (zi (ysk B len m + 1)) := ⟨_, rfl⟩
        have es := zs_Ropens (d := e) (n := n) g1 d1 hd
        rw [← hQ2] at es
        have f12 : yF yfQ [] Q1 Q2 := by rw [hQ2]; exact yF_t (yF_f (by decide)) (yF_f (by decide))
        have f2 : yF yfQ [] Q Q2 := yF_t (yF_m f1 (fun x hx => by simp only [List.mem_cons, List.not_mem_nil, or_false] at hx ⊢; exact Or.inl hx) (fun _ h => h)) f12
        have w2 : Q2.1 269 4 = -1 := by rw [hQ2]; exact (zp_f8 (by decide)).trans ((zp_f8 (by decide)).trans w1)
        have t2 : Q2.1 269 14 = zi t := (f12.1 269 14 (by decide)).trans t1
        refine ⟨Q2, f2, oR Q2 n c t (e + 1) (by omega) ⟨yTq_F (by decide) (by decide) f12 T1, by rw [hQ2]; exact zp_f9, hlt, w2, by rw [hQ2]; exact (zp_f8 (by decide)).trans zp_f9, t2, t5, by rw [f12.2.1 273 (by decide)]; exact c1, by omega⟩, ?_, t2, t5, hcm⟩
        rw [e_R_unit, zp_Rv, Option.bind_some, e1, zs_cI, Option.bind_some, if_pos h33, zp_Rv, Option.bind_some, es, zs_cV, Option.bind_some, zp_R4', Option.bind_some, w2, if_pos rfl, zp_Rv, Option.bind_some]
        rfl
      cases ho : o1.2 with
      | none =>
        refine ⟨(o1.1, none), ⟨k1, fun X hX => by cases hX⟩, fun P u e he hP => ?_, fun Q n c t e he hQ => ?_⟩
        · obtain ⟨e, rfl⟩ : ∃ e', e = e' + 2 := ⟨e - 2, by omega⟩
          obtain ⟨P1, F1, ⟨P3, e3, F3, g3, E3, -⟩, ea, -, -⟩ := CC P u e he hP
          refine ⟨P3, ?_, yF_t F1 F3, g3, E3, fun X hX => by cases hX⟩
          show zk_sm (e + 2) m_LawReader_readsUnit [.ref 24, .int (zi dd), .int 0] (zp_M P, n) = _
          rw [ea, e3, zs_cI, Option.bind_some, show yob o1 = 0 by unfold yob; rw [ho], if_pos rfl, zs_cI, Option.bind_some, if_pos rfl]
          rfl
        · obtain ⟨e, rfl⟩ : ∃ e', e = e' + 2 := ⟨e - 2, by omega⟩
          obtain ⟨Q1, F1, ⟨Q3, e3, F3, K3, i3, s3⟩, ea, t1, t5, hcq⟩ := RR Q n c t e he hQ
          unfold yqs at s3
          rw [ho] at s3
          obtain ⟨w3, a, c', dv, a1, a2, a3, a0, a4, a5⟩ := s3
          have t3 : Q3.1 269 14 = zi t := (F3.1 269 14 (by decide)).trans t1
          have hc5 : c' < 520 := by omega
          have f9 : yF yfQ [] (ypt Q3 t c' (zi 9) (zi 0)) (zp_sF (ypt Q3 t c' (zi 9) (zi 0)) 269 5 (dv - 1)) := yF_f (by decide)
          refine ⟨zp_sF (ypt Q3 t c' (zi 9) (zi 0)) 269 5 (dv - 1), ?_, yF_t (yF_q0 F1) (yF_t F3 (yF_t ypt_F (yF_q0 f9))), yKp_t (Nat.le_refl c) (yKp_f F1) (yKp_t a0 K3 (yKp_t (Nat.le_refl c') (ypt_K hc5) (yKp_f f9))), fun i hi => by rw [f9.2.1 273 (fun z => by cases z), ypt_i hi, i3 i hi, F1.2.1 273 (fun z => by cases z)], (zp_f8 (by decide)).trans w3, a, c' + 1, dv - 1, (zp_f8 (by decide)).trans a1, zp_f9, ypt_c, by omega, by omega, by omega⟩
          show zk_sm (e + 2) m_R_unit [.ref 269] (zp_M Q, n) = _
          rw [ea, show zk_sm (e + 1) m_R_unit [.ref 269] (zp_M Q1, n) = _ from e3, zs_cV, Option.bind_some, zp_Rv, Option.bind_some, zs_Rput t3 t5 a3 hc5, zs_cV, Option.bind_some, zp_R5', Option.bind_some, show (ypt Q3 t c' (zi 9) (zi 0)).1 269 5 = dv from a2, zp_R5p, Option.bind_some]
      | some Y =>
        obtain ⟨k3, k4⟩ := k2 Y ho
        refine ⟨(o1.1, some (Y ++ [(9, 0)])), ⟨k1, fun X hX => ?_⟩, fun P u e he hP => ?_, fun Q n c t e he hQ => ?_⟩
        · cases hX
          refine ⟨?_, fun ts hts => ?_⟩
          · rw [List.length_append]
            show Y.length + 1 + m ≤ o1.1
            omega
          · rw [yty_a, k4 ts (by omega), Option.bind_some]
            rfl
        · obtain ⟨e, rfl⟩ : ∃ e', e = e' + 3 := ⟨e - 3, by omega⟩
          obtain ⟨P1, F1, ⟨P3, e3, F3, g3, E3, X3⟩, ea, u25, huq⟩ := CC P u (e + 1) he hP
          obtain ⟨x1, x2, x3⟩ := X3 Y ho
          have ee := zs_emit (d := e) (n := n) (x := -33) x1 (by omega)
          refine ⟨yem P3 (u + Y.length) (-33), ?_, yF_t F1 (yF_t F3 yem_F), by rw [yem_m]; exact g3, zk_sm_k ee E3, fun X hX => ?_⟩
          · show zk_sm (e + 3) m_LawReader_readsUnit [.ref 24, .int (zi dd), .int 0] (zp_M P, n) = _
            rw [ea, e3, zs_cI, Option.bind_some, show yob o1 = 1 by unfold yob; rw [ho], if_neg zi_1n, zp_Yv, Option.bind_some, ee, zs_cV, Option.bind_some, zs_cI, Option.bind_some, if_neg zi_1n]
            rfl
          · cases hX
            refine ⟨by rw [yem_u, List.length_append]; rfl, ycs_a ?_ (ycs_1 (by rw [show yec (9, 0) = -33 by decide]; exact yem_9)), fun j hj => by rw [yem_8 (by omega), x3 j hj, u25 j]⟩
            intro i o hi
            have hl := (List.getElem?_eq_some_iff.mp hi).1
            rw [yem_8 (by omega)]
            exact x2 i o hi
        · obtain ⟨e, rfl⟩ : ∃ e', e = e' + 2 := ⟨e - 2, by omega⟩
          obtain ⟨Q1, F1, ⟨Q3, e3, F3, K3, i3, s3⟩, ea, t1, t5, hcq⟩ := RR Q n c t e he hQ
          unfold yqs at s3
          rw [ho] at s3
          obtain ⟨a1, a2, a3, a4, a5⟩ := s3
          have t3 : Q3.1 269 14 = zi t := (F3.1 269 14 (by decide)).trans t1
          have hc5 : c + Y.length < 520 := by omega
          have f9 : yF yfQ [] (ypt Q3 t (c + Y.length) (zi 9) (zi 0)) (zp_sF (ypt Q3 t (c + Y.length) (zi 9) (zi 0)) 269 5 (zi dd)) := yF_f (by decide)
          refine ⟨zp_sF (ypt Q3 t (c + Y.length) (zi 9) (zi 0)) 269 5 (zi dd), ?_, yF_t (yF_q0 F1) (yF_t F3 (yF_t ypt_F (yF_q0 f9))), yKp_t (Nat.le_refl c) (yKp_f F1) (yKp_t (Nat.le_add_right c Y.length) K3 (yKp_t (Nat.le_refl _) (ypt_K hc5) (yKp_f f9))), fun i hi => by rw [f9.2.1 273 (fun z => by cases z), ypt_i hi, i3 i hi, F1.2.1 273 (fun z => by cases z)], (zp_f8 (by decide)).trans a1, (zp_f8 (by decide)).trans a2, zp_f9, ypt_c.trans (by rw [List.length_append]; rfl), yps_k (yps_a (yps_k a5 (ypt_K hc5) (Nat.le_refl _)) (yps_1 ypt_9)) (yKp_f f9) (Nat.le_refl _)⟩
          show zk_sm (e + 2) m_R_unit [.ref 269] (zp_M Q, n) = _
          rw [ea, show zk_sm (e + 1) m_R_unit [.ref 269] (zp_M Q1, n) = _ from e3, zs_cV, Option.bind_some, zp_Rv, Option.bind_some, zs_Rput t3 t5 a4 hc5, zs_cV, Option.bind_some, zp_R5', Option.bind_some, show (ypt Q3 t (c + Y.length) (zi 9) (zi 0)).1 269 5 = zi (dd + 1) from a3, zi_d (show 0 < dd + 1 by omega), Nat.add_sub_cancel, zp_R5p, Option.bind_some]
    · exact deep (Or.inl h33) (by omega)
  · by_cases h40 : yhb B len (ysk B len m) = 40
    · have hlt : ysk B len m < len := yhb_lt h40 (by decide)
      by_cases hd : dd < 6
      · obtain ⟨o1, ⟨k1, k2⟩, oC, oR⟩ := hC hd (ysk B len m + 1) (by omega) hlt
        have sg2 := @ysk_ge B len o1.1
        have sl2 := ysk_le (B := B) k1
        have CC : ∀ (P : zp) (u e : Nat), 7 * (6 - dd) + 12 ≤ e + 2 → yc0 n L xs B len m u P → ∃ P1, yF yfP [25] P P1 ∧ yc9x n L xs (zk_sm e m_LawReader_readsCondition [.ref 24, .int (zi (dd + 1)), .int 0] (zp_M P1, n)) u o1 P1 ∧ zk_sm (e + 2) m_LawReader_readsUnit [.ref 24, .int (zi dd), .int 0] (zp_M P, n) = ((zk_cI ((zk_cI (zk_sm e m_LawReader_readsCondition [.ref 24, .int (zi (dd + 1)), .int 0] (zp_M P1, n))).bind fun p3 => if p3.1 = 0 then some (some (.int 0), p3.2) else (zk_gR p3.2 24 2 2).bind fun b4 => (zk_rv p3.2 b4 9).bind fun _ => (zk_cI (zk_sm e m_Tape_takes [.ref b4, .int 41] p3.2)).bind fun p5 => if p5.1 = 0 then some (some (.int 0), p5.2) else some (some (.int 1), p5.2))).bind fun p4 => if p4.1 = 0 then some (some (.int 0), p4.2) else some (some (.int 1), p4.2)) ∧ (∀ j, P1.2.1 25 j = P.2.1 25 j) ∧ u ≤ m ∧ yTp P1 B len := by
          intro P u e he hP
          obtain ⟨P1, e1, g1, f1, T1, u1, hum, E1⟩ := startC P u (e + 1) hP
          obtain ⟨P2, hP2⟩ : ∃ P2, P2 = zp_sF P1 13 1 (zi (ysk B len m + 1)) := ⟨_, rfl⟩
          have es := zs_step (d := e) (n := n) g1
          rw [← hP2] at es
          have f12 : yF [(13, 1)] [] P1 P2 := by rw [hP2]; exact yF_f (by decide)
          have f2 := yF_t f1 f12
          have T2 := yTp_F (by decide) (by decide) f12 T1
          refine ⟨P2, yF_p1 f2, oC P2 u e (by omega) ⟨T2, by rw [hP2]; exact zp_f9, hlt, (f12.1 24 1 (by decide)).trans u1, by omega, zk_sm_k es E1⟩, ?_, fun j => by rw [f2.2.1 25 (by decide)], hum, T2⟩
          rw [e_LawReader_readsUnit, zp_Y2, Option.bind_some, zp_Pv', Option.bind_some, e1, zs_cI, Option.bind_some, if_pos rfl, if_neg h33, if_pos h40, if_pos (show zi dd < 6 from (zi_l (m := 6) (by omega) (by decide)).mpr hd), zp_Yv, Option.bind_some, e_LawReader_readsNested, zp_Y2, Option.bind_some, zp_Pv', Option.bind_some, es, zs_cV, Option.bind_some, h40, if_pos rfl, zp_Yv, Option.bind_some, zi_s]
        have RR : ∀ (Q : zp) (n : Nat × Nat) (c t e : Nat), 7 * (6 - dd) + 12 ≤ e + 2 → yq0 B len m c dd t Q → ∃ Q1, yF yfQ [] Q Q1 ∧ yq9 n (zk_sm (e + 1) m_R_condition [.ref 269] (zp_M Q1, n)) len (ysk B len m + 1) c (dd + 1) t o1 Q1 ∧ zk_sm (e + 2) m_R_unit [.ref 269] (zp_M Q, n) = ((zk_cV (zk_sm (e + 1) m_R_condition [.ref 269] (zp_M Q1, n))).bind fun t10 => (zk_rv t10 269 12).bind fun _ => (zk_cV (zk_sm (e + 1) m_R_closes [.ref 269, .int 41] t10)).bind fun t11 => some (none, t11)) ∧ yTq Q1 B len ∧ c ≤ m := by
          intro Q n c t e he hQ
          obtain ⟨Q1, e1, g1, f1, T1, w1, d1, t1, t5, c1, hcm⟩ := startR Q n c t e hQ
          obtain ⟨Q2, hQ2⟩ : ∃ Q2, Q2 = zp_sF (zp_sF Q1 269 5 (zi (dd + 1))) 269 3 (zi (ysk B len m + 1)) := ⟨_, rfl⟩
          have es := zs_Ropens (d := e) (n := n) g1 d1 hd
          rw [← hQ2] at es
          have f12 : yF yfQ [] Q1 Q2 := by rw [hQ2]; exact yF_t (yF_f (by decide)) (yF_f (by decide))
          have f2 : yF yfQ [] Q Q2 := yF_t (yF_m f1 (fun x hx => by simp only [List.mem_cons, List.not_mem_nil, or_false] at hx ⊢; exact Or.inl hx) (fun _ h => h)) f12
          have w2 : Q2.1 269 4 = -1 := by rw [hQ2]; exact (zp_f8 (by decide)).trans ((zp_f8 (by decide)).trans w1)
          have T2 := yTq_F (by decide) (by decide) f12 T1
          refine ⟨Q2, f2, oR Q2 n c t (e + 1) (by omega) ⟨T2, by rw [hQ2]; exact zp_f9, hlt, w2, by rw [hQ2]; exact (zp_f8 (by decide)).trans zp_f9, (f12.1 269 14 (by decide)).trans t1, t5, by rw [f12.2.1 273 (by decide)]; exact c1, by omega⟩, ?_, T2, hcm⟩
          rw [e_R_unit, zp_Rv, Option.bind_some, e1, zs_cI, Option.bind_some, if_neg h33, if_pos h40, zp_Rv, Option.bind_some, es, zs_cV, Option.bind_some, zp_R4', Option.bind_some, w2, if_pos rfl, zp_Rv, Option.bind_some]
        cases ho : o1.2 with
        | none =>
          refine ⟨(o1.1, none), ⟨k1, fun X hX => by cases hX⟩, fun P u e he hP => ?_, fun Q n c t e he hQ => ?_⟩
          · obtain ⟨e, rfl⟩ : ∃ e', e = e' + 2 := ⟨e - 2, by omega⟩
            obtain ⟨P1, F1, ⟨P3, e3, F3, g3, E3, -⟩, ea, -, -, -⟩ := CC P u e he hP
            refine ⟨P3, ?_, yF_t F1 F3, g3, E3, fun X hX => by cases hX⟩
            show zk_sm (e + 2) m_LawReader_readsUnit [.ref 24, .int (zi dd), .int 0] (zp_M P, n) = _
            rw [ea, e3, zs_cI, Option.bind_some, show yob o1 = 0 by unfold yob; rw [ho], if_pos rfl, zs_cI, Option.bind_some, if_pos rfl]
            rfl
          · obtain ⟨e, rfl⟩ : ∃ e', e = e' + 2 := ⟨e - 2, by omega⟩
            obtain ⟨Q1, F1, ⟨Q3, e3, F3, K3, i3, s3⟩, ea, T1, hcq⟩ := RR Q n c t e he hQ
            unfold yqs at s3
            rw [ho] at s3
            obtain ⟨w3, a, c', dv, a1, a2, a3, a0, a4, a5⟩ := s3
            obtain ⟨Q4, e4, g4, w4, F4⟩ := zs_Rcloses2 (n := n) (d := e) (x := 41) a1 w3 (by omega) a2
            have z4 : Q4.2.1 273 = Q3.2.1 273 := F4.2.1 273 (fun z => by cases z)
            refine ⟨Q4, ?_, yF_t (yF_q0 F1) (yF_t F3 (yF_q0 F4)), yKp_t (Nat.le_refl c) (yKp_f F1) (yKp_t (Nat.le_refl c) K3 (yKp_f F4)), fun i hi => by rw [z4, i3 i hi, F1.2.1 273 (fun z => by cases z)], w4, a + 1, c', _, g4, rfl, by rw [z4]; exact a3, a0, by omega, by omega⟩
            show zk_sm (e + 2) m_R_unit [.ref 269] (zp_M Q, n) = _
            rw [ea, show zk_sm (e + 1) m_R_condition [.ref 269] (zp_M Q1, n) = _ from e3, zs_cV, Option.bind_some, zp_Rv, Option.bind_some, e4, zs_cV, Option.bind_some]
        | some Y =>
          obtain ⟨k3, k4⟩ := k2 Y ho
          by_cases h41 : yhb B len (ysk B len o1.1) = 41
          · have hlt2 : ysk B len o1.1 < len := yhb_lt h41 (by decide)
            refine ⟨(ysk B len o1.1 + 1, some Y), ⟨hlt2, fun X hX => ?_⟩, fun P u e he hP => ?_, fun Q n c t e he hQ => ?_⟩
            · cases hX
              exact ⟨by show Y.length + m ≤ ysk B len o1.1 + 1; omega, fun ts hts => k4 ts (by omega)⟩
            · obtain ⟨e, rfl⟩ : ∃ e', e = e' + 3 := ⟨e - 3, by omega⟩
              obtain ⟨P1, F1, ⟨P3, e3, F3, g3, E3, X3⟩, ea, u25, huq, T1⟩ := CC P u (e + 1) he hP
              obtain ⟨x1, x2, x3⟩ := X3 Y ho
              obtain ⟨P4, e4, g4, F4⟩ := zs_takes (d := e) (n := n) (c := 41) (yTp_F (by decide) (by decide) F3 T1) g3 k1
              rw [decide_eq_true h41] at e4
              rw [if_pos h41] at g4
              refine ⟨P4, ?_, yF_t F1 (yF_t F3 (yF_p1 F4)), g4, zk_sm_k e4 E3, fun X' hX' => ?_⟩
              · show zk_sm (e + 3) m_LawReader_readsUnit [.ref 24, .int (zi dd), .int 0] (zp_M P, n) = _
                rw [ea, e3, zs_cI, Option.bind_some, show yob o1 = 1 by unfold yob; rw [ho], if_neg zi_1n, zp_Y2, Option.bind_some, zp_Pv', Option.bind_some, e4, zs_cI, Option.bind_some, zp_ib]
                rfl
              · cases hX'
                exact ⟨(F4.1 24 1 (by decide)).trans x1, fun j o hj => by rw [F4.2.1 25 (by decide)]; exact x2 j o hj, fun j hj => by rw [F4.2.1 25 (by decide), x3 j hj]; exact u25 j⟩
            · obtain ⟨e, rfl⟩ : ∃ e', e = e' + 3 := ⟨e - 3, by omega⟩
              obtain ⟨Q1, F1, ⟨Q3, e3, F3, K3, i3, s3⟩, ea, T1, hcq⟩ := RR Q n c t (e + 1) he hQ
              unfold yqs at s3
              rw [ho] at s3
              obtain ⟨a1, a2, a3, a4, a5⟩ := s3
              obtain ⟨Q4, e4, g4, w4, d4, F4⟩ := zs_Rcloses (n := n) (d := e) (x := 41) (yTq_F (by decide) (by decide) F3 T1) a1 k1 a2 a3
              rw [if_pos h41] at w4
              have z4 : Q4.2.1 273 = Q3.2.1 273 := F4.2.1 273 (fun z => by cases z)
              refine ⟨Q4, ?_, yF_t (yF_q0 F1) (yF_t F3 (yF_q0 F4)), yKp_t (Nat.le_refl c) (yKp_f F1) (yKp_t (Nat.le_refl c) K3 (yKp_f F4)), fun i hi => by rw [z4, i3 i hi, F1.2.1 273 (fun z => by cases z)], g4, w4, d4, by rw [z4]; exact a4, yps_k a5 (yKp_f F4) (Nat.le_refl _)⟩
              show zk_sm (e + 3) m_R_unit [.ref 269] (zp_M Q, n) = _
              rw [ea, show zk_sm (e + 1 + 1) m_R_condition [.ref 269] (zp_M Q1, n) = _ from e3, zs_cV, Option.bind_some, zp_Rv, Option.bind_some, e4, zs_cV, Option.bind_some]
          · refine ⟨(ysk B len o1.1, none), ⟨sl2, fun X hX => by cases hX⟩, fun P u e he hP => ?_, fun Q n c t e he hQ => ?_⟩
            · obtain ⟨e, rfl⟩ : ∃ e', e = e' + 3 := ⟨e - 3, by omega⟩
              obtain ⟨P1, F1, ⟨P3, e3, F3, g3, E3, X3⟩, ea, u25, huq, T1⟩ := CC P u (e + 1) he hP
              obtain ⟨P4, e4, g4, F4⟩ := zs_takes (d := e) (n := n) (c := 41) (yTp_F (by decide) (by decide) F3 T1) g3 k1
              rw [decide_eq_false h41] at e4
              rw [if_neg h41] at g4
              refine ⟨P4, ?_, yF_t F1 (yF_t F3 (yF_p1 F4)), g4, zk_sm_k e4 E3, fun X' hX' => by cases hX'⟩
              show zk_sm (e + 3) m_LawReader_readsUnit [.ref 24, .int (zi dd), .int 0] (zp_M P, n) = _
              rw [ea, e3, zs_cI, Option.bind_some, show yob o1 = 1 by unfold yob; rw [ho], if_neg zi_1n, zp_Y2, Option.bind_some, zp_Pv', Option.bind_some, e4, zs_cI, Option.bind_some, zp_ib]
              rfl
            · obtain ⟨e, rfl⟩ : ∃ e', e = e' + 3 := ⟨e - 3, by omega⟩
              obtain ⟨Q1, F1, ⟨Q3, e3, F3, K3, i3, s3⟩, ea, T1, hcq⟩ := RR Q n c t (e + 1) he hQ
              unfold yqs at s3
              rw [ho] at s3
              obtain ⟨a1, a2, a3, a4, a5⟩ := s3
              obtain ⟨Q4, e4, g4, w4, d4, F4⟩ := zs_Rcloses (n := n) (d := e) (x := 41) (yTq_F (by decide) (by decide) F3 T1) a1 k1 a2 a3
              rw [if_neg h41] at w4
              have z4 : Q4.2.1 273 = Q3.2.1 273 := F4.2.1 273 (fun z => by cases z)
              refine ⟨Q4, ?_, yF_t (yF_q0 F1) (yF_t F3 (yF_q0 F4)), yKp_t (Nat.le_refl c) (yKp_f F1) (yKp_t (Nat.le_refl c) K3 (yKp_f F4)), fun i hi => by rw [z4, i3 i hi, F1.2.1 273 (fun z => by cases z)], w4, ysk B len o1.1 + 1, c + Y.length, _, g4, d4, by rw [z4]; exact a4, by omega, by omega, by omega⟩
              show zk_sm (e + 3) m_R_unit [.ref 269] (zp_M Q, n) = _
              rw [ea, show zk_sm (e + 1 + 1) m_R_condition [.ref 269] (zp_M Q1, n) = _ from e3, zs_cV, Option.bind_some, zp_Rv, Option.bind_some, e4, zs_cV, Option.bind_some]
      · exact deep (Or.inr h40) (by omega)
    · have hsum := yRx_D (yR_sumcmp (n := n) (L := L) (xs := xs) (B := B) (m := ysk B len m) h240 sl h6 (fun m' h1 h2 => hS m' (by omega) h2)) (show 3 * (6 - dd) + 9 ≤ 7 * (6 - dd) + 10 by omega)
      refine yRx_p hm hsum (fun P P1 e _ e1 => ?_) (fun Q Q1 n e _ e1 => ?_)
      · show zk_sm (e + 1) m_LawReader_readsUnit [.ref 24, .int (zi dd), .int 0] (zp_M P, n) = _
        rw [e_LawReader_readsUnit, zp_Y2, Option.bind_some, zp_Pv', Option.bind_some, e1, zs_cI, Option.bind_some, if_pos rfl, if_neg h33, if_neg h40, if_pos rfl, zp_Yv, Option.bind_some]
        rfl
      · show zk_sm (e + 2) m_R_unit [.ref 269] (zp_M Q, n) = _
        rw [e_R_unit, zp_Rv, Option.bind_some, e1, zs_cI, Option.bind_some, if_neg h33, if_neg h40, zp_Rv, Option.bind_some]
        rfl
end
