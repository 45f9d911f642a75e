/-! PARSING 5: laws: an atom -/
def ytyF (k : Nat) (X : List (Nat × Nat)) : Prop := ∀ ts : List Bool, ts.length ≤ k → yty X ts = some (false :: ts)
def ytyT (k : Nat) (X : List (Nat × Nat)) : Prop := ∀ ts : List Bool, ts.length ≤ k → yty X ts = some (true :: ts)
theorem yF_p1 {P P' : zp} (f : yF [(13, 1)] [] P P') : yF yfP [25] P P' := yF_m f (fun x hx => by simp only [List.mem_cons, List.not_mem_nil, or_false] at hx ⊢; exact Or.inl hx) (fun _ h => by cases h)
theorem yF_q3 {P P' : zp} (f : yF [(269, 3)] [] P P') : yF yfQ ykQ P P' := yF_m f (fun x hx => by simp only [List.mem_cons, List.not_mem_nil, or_false] at hx ⊢; exact Or.inl hx) (fun _ h => by cases h)
theorem yF_q34 {P P' : zp} (f : yF [(269, 3), (269, 4)] [] P P') : yF yfQ ykQ P P' := yF_m f (fun x hx => by simp only [List.mem_cons, List.not_mem_nil, or_false] at hx ⊢; rcases hx with rfl | rfl <;> simp) (fun _ h => by cases h)
theorem yF_q0 {P P' : zp} (f : yF yfQ [] P P') : yF yfQ ykQ P P' := yF_m f (fun _ h => h) (fun _ h => by cases h)
theorem yKp_f {t c : Nat} {Q Q' : zp} {fs : List (Nat × Nat)} (f : yF fs [] Q Q') : yKp t c Q Q' := fun j _ => ⟨by rw [f.2.1 271 (fun z => by cases z)], by rw [f.2.1 272 (fun z => by cases z)]⟩
theorem ycs_1 {P : zp} {u : Nat} {o : Nat × Nat} (h : P.2.1 25 u = yec o) : ycs P u [o] := fun j o' hj => by
  match j, hj with
  | 0, hj => cases hj; exact h
  | j + 1, hj => cases hj
theorem yps_1 {Q : zp} {t c : Nat} {o : Nat × Nat} (h : Q.2.1 271 (520 * t + c) = zi o.1 ∧ Q.2.1 272 (520 * t + c) = zi o.2) : yps Q t c [o] := fun j o' hj => by
  match j, hj with
  | 0, hj => cases hj; exact h
  | j + 1, hj => cases hj
theorem ynu_4 {B : Nat → Nat} {len m : Nat} (hB : ∀ i, i < len → 1 ≤ B i ∧ B i < 256) (hd : ydgt (yhb B len m) = true) (hl : m ≤ len) : m < (ynu B len 4 m 0).1 ∧ (ynu B len 4 m 0).1 ≤ len ∧ (ynu B len 4 m 0).2 < 10000 := by
  obtain ⟨-, b, c⟩ := ynu_b hB 4 0 m 0 (by decide) hl
  exact ⟨ynu_1 hB hd, b, c⟩
section
variable {n : Nat × Nat} {L len m dd : Nat} {xs : Nat → Int32} {B : Nat → Nat}
/-- the class's number behind a sign that is no letter and no [ -/
theorem zs_Cnum {P : zp} (hB : ∀ i, i < len → 1 ≤ B i ∧ B i < 256) (hT : yTp P B len) (hm : P.1 13 1 = zi (ysk B len m)) (hl : m ≤ len) (hE : zk_kE L xs (zp_M P, n)) (hn : ¬ yhb B len (ysk B len m) = 91) (hix : ¬ ∃ i, i < 6 ∧ yhb B len (ysk B len m) = ylt i) {P0 : zp} {e : Nat} (he : 5 ≤ e) (e1 : zk_sm e m_Tape_sign [.ref 13] (zp_M P0, n) = some (some (.int (yhb B len (ysk B len m))), (zp_M P, n))) : ∃ P', zk_sm (e + 1) m_LawReader_readsAtom [.ref 24, .int (zi dd)] (zp_M P0, n) = (if (yno B len 4 9999 (ysk B len m)).1 = -1 then some (some (.int 0), (zp_M P', n)) else (zk_cV (zk_sm e m_LawReader_emit [.ref 24, .int (yno B len 4 9999 (ysk B len m)).1] (zp_M P', n))).bind fun t => some (some (.int 1), t)) ∧ P'.1 13 1 = zi (yno B len 4 9999 (ysk B len m)).2 ∧ yF [(13, 1)] [] P P' := by
  obtain ⟨e', rfl⟩ : ∃ e', e = e' + 3 := ⟨e - 3, by omega⟩
  obtain ⟨P', e2, g2, f2⟩ := zs_number (d := e' + 2) (n := n) (D := 4) (hi := 9999) hT hm (ysk_le hl) (by decide) (by decide)
  have e2 : zk_sm (e' + 3) m_Tape_number [.ref 13, .int 4, .int 9999] (zp_M P, n) = _ := e2
  refine ⟨P', ?_, g2, f2⟩
  rw [e_LawReader_readsAtom, zp_Y2, Option.bind_some, zp_Pv', Option.bind_some, e1, zs_cI, Option.bind_some, if_neg hn]
  have tail : ((zk_gR (zp_M P, n) 24 2 2).bind fun b12 => (zk_rv (zp_M P, n) b12 9).bind fun _ => (zk_cI (zk_sm (e' + 3) m_Tape_number [Value.ref b12, Value.int 4, Value.int 9999] (zp_M P, n))).bind fun p13 => if p13.1 = -1 then (some (some (Value.int 0), p13.2) : Option zk_R) else (zk_rv p13.2 24 2).bind fun _ => (zk_cV (zk_sm (e' + 3) m_LawReader_emit [Value.ref 24, Value.int p13.1] p13.2)).bind fun t14 => some (some (Value.int 1), t14)) = (if (yno B len 4 9999 (ysk B len m)).1 = -1 then some (some (.int 0), (zp_M P', n)) else (zk_cV (zk_sm (e' + 3) m_LawReader_emit [.ref 24, .int (yno B len 4 9999 (ysk B len m)).1] (zp_M P', n))).bind fun t => some (some (.int 1), t)) := by
    rw [zp_Y2, Option.bind_some, zp_Pv', Option.bind_some, e2, zs_cI, Option.bind_some, zp_Yv, Option.bind_some]
  by_cases z : yhb B len (ysk B len m) = -1
  · rw [if_pos z]; exact tail
  · rw [if_neg z]
    have hlt : ysk B len m < len := by
      by_cases y : ysk B len m < len
      · exact y
      · exact absurd (if_neg y) z
    have hb := hB _ hlt
    have ec : yhb B len (ysk B len m) = zi (B (ysk B len m)) := if_pos hlt
    have hx : yix [115, 98, 102, 116, 103, 119] 0 (zi (B (ysk B len m))) = -1 := by
      rcases yix_l _ hb.2 with y | ⟨i, hi, y1, y2⟩
      · exact y.1
      · exact absurd ⟨i, hi, ec.trans y2⟩ hix
    have hv : zk_rv (zp_M P, n) 7 13 = some () := by
      unfold zk_rv
      show (match zp_M P 7 with | .inl (c', _) => if c' = 13 then some () else none | .inr _ => none) = _
      rw [zk_kE_p hE (by decide)]
      rfl
    rw [hv, Option.bind_some, ec, zi_16 _ hb.2, zs_lettersC (d := e') hE (zi_n (by omega)) (fun y => absurd ((zi_l (i := 255) (by decide) (by omega)).mp y) (by omega)), zs_cI, Option.bind_some, hx, if_pos (show (-1 : Int32) < 0 by decide)]
    exact tail
set_option maxHeartbeats 2000000 in
theorem yR_atom (hB : ∀ i, i < len → 1 ≤ B i ∧ B i < 256) (h240 : len ≤ 240) (hm : m ≤ len) (h6 : dd ≤ 6) (hS : dd < 6 → ∀ m', m < m' → m' ≤ len → yRd n L xs B len m' (dd + 1) (3 * (6 - (dd + 1)) + 8) m_LawReader_readsSum m_R_sum [.int (zi (dd + 1))] (ytyF (2 * (dd + 1) + 3))) : yRd n L xs B len m dd (3 * (6 - dd) + 6) m_LawReader_readsAtom m_R_atom [.int (zi dd)] (ytyF (2 * dd + 5)) := by
  have sl := ysk_le (B := B) hm
  have sg := @ysk_ge B len m
  -- the class's start
  have startC : ∀ (P : zp) (u e : Nat), yc0 n L xs B len m u P → ∃ P1, zk_sm e m_Tape_sign [.ref 13] (zp_M P, n) = some (some (.int (yhb B len (ysk B len m))), (zp_M P1, n)) ∧ P1.1 13 1 = zi (ysk B len m) ∧ yF [(13, 1)] [] P P1 ∧ yTp P1 B len ∧ P1.1 24 1 = zi u ∧ u ≤ m ∧ zk_kE L xs (zp_M P1, n) := by
    rintro P u e ⟨c1, c2, c3, c4, c5, c6⟩
    obtain ⟨P1, e1, g1, f1⟩ := zs_sign (d := e) (n := n) c1 c2 c3
    exact ⟨P1, e1, g1, f1, yTp_F (by decide) (by decide) f1 c1, (f1.1 24 1 (by decide)).trans c4, c5, zk_sm_k e1 c6⟩
  -- the reference's
  have startR : ∀ (Q : zp) (n : Nat × Nat) (c t e : Nat), yq0 B len m c dd t Q → ∃ Q1, zk_sm (e + 1) m_R_look [.ref 269] (zp_M Q, n) = some (some (.int (yhb B len (ysk B len m))), (zp_M Q1, n)) ∧ Q1.1 269 3 = zi (ysk B len m) ∧ yF [(269, 3)] [] Q Q1 ∧ yTq Q1 B len ∧ Q1.1 269 4 = -1 ∧ Q1.1 269 5 = zi dd ∧ Q1.1 269 14 = zi t ∧ t < 5 ∧ Q1.2.1 273 t = zi c ∧ c ≤ m := by
    rintro Q n c t e ⟨q1, q2, q3, q4, q5, q6, q7, q8, q9⟩
    obtain ⟨Q1, e1, g1, f1⟩ := zs_Rlook (d := e) (n := n) q1 q2 (by omega)
    exact ⟨Q1, e1, g1, f1, yTq_F (by decide) (by decide) f1 q1, (f1.1 269 4 (by decide)).trans q4, (f1.1 269 5 (by decide)).trans q5, (f1.1 269 14 (by decide)).trans q6, q7, by rw [f1.2.1 273 (by decide)]; exact q8, q9⟩
  by_cases h91 : yhb B len (ysk B len m) = 91
  · have hlt : ysk B len m < len := yhb_lt h91 (by decide)
    by_cases hd : dd < 6
    · obtain ⟨o1, ⟨k1, k2⟩, oC, oR⟩ := hS hd (ysk B len m + 1) (by omega) (by omega)
      have CC : ∀ (P : zp) (u e : Nat), 3 * (6 - dd) + 6 ≤ e + 1 → yc0 n L xs B len m u P → ∃ P1 P2, yF yfP [25] P P1 ∧ yc9 n (zk_sm e m_LawReader_readsSum [.ref 24, .int (zi (dd + 1))] (zp_M P1, n)) u o1 P1 ∧ zk_sm (e + 1) m_LawReader_readsAtom [.ref 24, .int (zi dd)] (zp_M P, n) = ((zk_cI (zk_sm e m_LawReader_readsSum [.ref 24, .int (zi (dd + 1))] (zp_M P1, n))).bind fun p5 => if p5.1 = 0 then some (some (.int 0), p5.2) else (zk_gR p5.2 24 2 2).bind fun b6 => (zk_rv p5.2 b6 9).bind fun _ => (zk_cI (zk_sm e m_Tape_takes [.ref b6, .int 93] p5.2)).bind fun p7 => if p7.1 = 0 then some (some (.int 0), p7.2) else some (some (.int 1), p7.2)) ∧ P2 = P1 ∧ (∀ j, P1.2.1 25 j = P.2.1 25 j) ∧ yTp P1 B len := by
        intro P u e he hP
        obtain ⟨P1, e1, g1, f1, T1, u1, hum, E1⟩ := startC P u e hP
        obtain ⟨P2, hP2⟩ : ∃ P2, P2 = zp_sF P1 13 1 (zi (ysk B len m + 1)) := ⟨_, rfl⟩
        have es := zs_step (d := e) (n := n) g1
        rw [← hP2] at es
        have f2 : yF [(13, 1)] [] P P2 := yF_t f1 (by rw [hP2]; exact yF_f (by decide))
        refine ⟨P2, P2, yF_p1 f2, oC P2 u e (by omega) ⟨yTp_F (by decide) (by decide) (by rw [hP2]; exact yF_f (by decide) : yF [(13, 1)] [] P1 P2) T1, by rw [hP2]; exact zp_f9, by omega, by rw [hP2]; exact (zp_f8 (by decide)).trans u1, by omega, zk_sm_k es E1⟩, ?_, rfl, fun j => by rw [f2.2.1 25 (by decide)], yTp_F (by decide) (by decide) (by rw [hP2]; exact yF_f (by decide) : yF [(13, 1)] [] P1 P2) T1⟩
        rw [e_LawReader_readsAtom, zp_Y2, Option.bind_some, zp_Pv', Option.bind_some, e1, zs_cI, Option.bind_some, if_pos h91, if_pos (show zi dd < 6 from (zi_l (m := 6) (by omega) (by decide)).mpr hd), zp_Y2, Option.bind_some, zp_Pv', Option.bind_some, es, zs_cV, Option.bind_some, zp_Yv, Option.bind_some, zi_s]
      have RR : ∀ (Q : zp) (n : Nat × Nat) (c t e : Nat), 3 * (6 - dd) + 6 ≤ e + 2 → yq0 B len m c dd t Q → ∃ Q1, yF yfQ [] Q Q1 ∧ yq9 n (zk_sm (e + 1) m_R_sum [.ref 269] (zp_M Q1, n)) len (ysk B len m + 1) c (dd + 1) t o1 Q1 ∧ zk_sm (e + 2) m_R_atom [.ref 269] (zp_M Q, n) = ((zk_cV (zk_sm (e + 1) m_R_sum [.ref 269] (zp_M Q1, n))).bind fun t6 => (zk_rv t6 269 12).bind fun _ => (zk_cV (zk_sm (e + 1) m_R_closes [.ref 269, .int 93] t6)).bind fun t7 => some (none, t7)) ∧ yTq Q1 B len := by
        intro Q n c t e he hQ
        obtain ⟨Q1, e1, g1, f1, T1, w1, d1, t1, t5, c1, hcm⟩ := startR Q n c t e hQ
        obtain ⟨Q2, hQ2⟩ : ∃ Q2, Q2 = zp_sF (zp_sF Q1 269 5 (zi (dd + 1))) 269 3 (zi (ysk B len m + 1)) := ⟨_, rfl⟩
        have es := zs_Ropens (d := e) (n := n) g1 d1 hd
        rw [← hQ2] at es
        have f12 : yF yfQ [] Q1 Q2 := by rw [hQ2]; exact yF_t (yF_f (by decide)) (yF_f (by decide))
        have f2 : yF yfQ [] Q Q2 := yF_t (yF_m f1 (fun x hx => by simp only [List.mem_cons, List.not_mem_nil, or_false] at hx ⊢; exact Or.inl hx) (fun _ h => h)) f12
        have T2 : yTq Q2 B len := yTq_F (by decide) (by decide) f12 T1
        have w2 : Q2.1 269 4 = -1 := by rw [hQ2]; exact (zp_f8 (by decide)).trans ((zp_f8 (by decide)).trans w1)
        refine ⟨Q2, f2, oR Q2 n c t (e + 1) (by omega) ⟨T2, by rw [hQ2]; exact zp_f9, by omega, w2, by rw [hQ2]; exact (zp_f8 (by decide)).trans zp_f9, (f12.1 269 14 (by decide)).trans t1, t5, by rw [f12.2.1 273 (by decide)]; exact c1, by omega⟩, ?_, T2⟩
        rw [e_R_atom, zp_Rv, Option.bind_some, e1, zs_cI, Option.bind_some, zs_Rdig, zs_cI, Option.bind_some, zp_ib, h91, show ydgt 91 = false by decide, cond_false, zs_letterOf_n (x := 91) (by decide), zs_cI, Option.bind_some, if_pos rfl, if_pos rfl, zp_Rv, Option.bind_some, es, zs_cV, Option.bind_some, zp_R4', Option.bind_some, w2, if_pos rfl, zp_Rv, Option.bind_some]
      cases ho : o1.2 with
      | none =>
        refine ⟨(o1.1, none), ⟨k1, trivial⟩, fun P u e he hP => ?_, fun Q n c t e he hQ => ?_⟩
        · obtain ⟨e, rfl⟩ : ∃ e', e = e' + 1 := ⟨e - 1, by omega⟩
          obtain ⟨P1, -, F1, ⟨P3, e3, F3, g3, -⟩, ea, -, -, -⟩ := CC P u e he hP
          refine ⟨P3, ?_, yF_t F1 F3, g3, fun X hX => by cases hX⟩
          rw [ea, e3, zs_cI, Option.bind_some, show yob o1 = 0 by unfold yob; rw [ho], if_pos rfl]
          rfl
        · obtain ⟨e, rfl⟩ : ∃ e', e = e' + 2 := ⟨e - 2, by omega⟩
          obtain ⟨Q1, F1, ⟨Q3, e3, F3, K3, i3, s3⟩, ea, -⟩ := RR Q n c t e he hQ
          unfold yqs at s3
          rw [ho] at s3
          obtain ⟨w3, a, c', dv, a1, a2, a3, a0, a4, a5⟩ := s3
          obtain ⟨Q4, e4, g4, w4, F4⟩ := zs_Rcloses2 (n := n) (d := e) (x := 93) a1 w3 (by omega) a2
          refine ⟨Q4, ?_, yF_t (yF_q0 F1) (yF_t F3 (yF_q0 F4)), yKp_t (Nat.le_refl c) (yKp_t (Nat.le_refl c) (yKp_f F1) K3) (yKp_f F4), fun i hi => by rw [F4.2.1 273 (fun z => by cases z), i3 i hi, F1.2.1 273 (fun z => by cases z)], ?_⟩
          · rw [ea, e3, zs_cV, Option.bind_some, zp_Rv, Option.bind_some, e4, zs_cV, Option.bind_some]
          · exact ⟨w4, a + 1, c', _, g4, rfl, by rw [F4.2.1 273 (fun z => by cases z)]; exact a3, by omega, by omega, by omega⟩
      | some X =>
        rw [ho] at k2
        obtain ⟨k2, k3, k4⟩ := k2
        have sl2 := ysk_le (B := B) k1
        have sg2 := @ysk_ge B len o1.1
        by_cases h93 : yhb B len (ysk B len o1.1) = 93
        · have hlt2 : ysk B len o1.1 < len := yhb_lt h93 (by decide)
          refine ⟨(ysk B len o1.1 + 1, some X), ⟨by show ysk B len o1.1 + 1 ≤ len; omega, by show m < ysk B len o1.1 + 1; omega, by show X.length + m ≤ ysk B len o1.1 + 1; omega, fun ts hts => k4 ts (by omega)⟩, fun P u e he hP => ?_, fun Q n c t e he hQ => ?_⟩
          · obtain ⟨e, rfl⟩ : ∃ e', e = e' + 2 := ⟨e - 2, by omega⟩
            obtain ⟨P1, -, F1, ⟨P3, e3, F3, g3, X3⟩, ea, -, u25, T1⟩ := CC P u (e + 1) he hP
            obtain ⟨x1, x2, x3⟩ := X3 X ho
            obtain ⟨P4, e4, g4, F4⟩ := zs_takes (d := e) (n := n) (c := 93) (yTp_F (by decide) (by decide) F3 T1) g3 k1
            rw [decide_eq_true h93] at e4
            rw [if_pos h93] at g4
            refine ⟨P4, ?_, yF_t F1 (yF_t F3 (yF_p1 F4)), g4, fun X' hX' => ?_⟩
            · rw [ea, e3, zs_cI, Option.bind_some, show yob o1 = 1 by unfold yob; rw [ho], if_neg zi_1n, zp_Y2, Option.bind_some, zp_Pv', Option.bind_some, e4, zs_cI, Option.bind_some, zp_ib]
              rfl
            · cases hX'
              refine ⟨(F4.1 24 1 (by decide)).trans x1, fun j o hj => by rw [F4.2.1 25 (by decide)]; exact x2 j o hj, fun j hj => by rw [F4.2.1 25 (by decide), x3 j hj]; exact u25 j⟩
          · obtain ⟨e, rfl⟩ : ∃ e', e = e' + 3 := ⟨e - 3, by omega⟩
            obtain ⟨Q1, F1, ⟨Q3, e3, F3, K3, i3, s3⟩, ea, T1⟩ := RR Q n c t (e + 1) he hQ
            unfold yqs at s3
            rw [ho] at s3
            obtain ⟨a1, a2, a3, a4, a5⟩ := s3
            obtain ⟨Q4, e4, g4, w4, d4, F4⟩ := zs_Rcloses (n := n) (d := e) (x := 93) (yTq_F (by decide) (by decide) F3 T1) a1 k1 a2 a3
            rw [if_pos h93] at w4
            have z4 : Q4.2.1 273 = Q3.2.1 273 := F4.2.1 273 (fun z => by cases z)
            refine ⟨Q4, ?_, yF_t (yF_q0 F1) (yF_t F3 (yF_q0 F4)), yKp_t (Nat.le_refl c) (yKp_t (Nat.le_refl c) (yKp_f F1) K3) (yKp_f F4), fun i hi => by rw [z4, i3 i hi, F1.2.1 273 (fun z => by cases z)], ?_⟩
            · rw [ea, e3, zs_cV, Option.bind_some, zp_Rv, Option.bind_some, e4, zs_cV, Option.bind_some]
            · exact ⟨g4, w4, d4, by rw [z4]; exact a4, fun j o hj => by rw [F4.2.1 271 (fun z => by cases z), F4.2.1 272 (fun z => by cases z)]; exact a5 j o hj⟩
        · refine ⟨(ysk B len o1.1, none), ⟨sl2, trivial⟩, fun P u e he hP => ?_, fun Q n c t e he hQ => ?_⟩
          · obtain ⟨e, rfl⟩ : ∃ e', e = e' + 2 := ⟨e - 2, by omega⟩
            obtain ⟨P1, -, F1, ⟨P3, e3, F3, g3, X3⟩, ea, -, u25, T1⟩ := CC P u (e + 1) he hP
            obtain ⟨P4, e4, g4, F4⟩ := zs_takes (d := e) (n := n) (c := 93) (yTp_F (by decide) (by decide) F3 T1) g3 k1
            rw [decide_eq_false h93] at e4
            rw [if_neg h93] at g4
            refine ⟨P4, ?_, yF_t F1 (yF_t F3 (yF_p1 F4)), g4, fun X' hX' => by cases hX'⟩
            rw [ea, e3, zs_cI, Option.bind_some, show yob o1 = 1 by unfold yob; rw [ho], if_neg zi_1n, zp_Y2, Option.bind_some, zp_Pv', Option.bind_some, e4, zs_cI, Option.bind_some, zp_ib]
            rfl
          · obtain ⟨e, rfl⟩ : ∃ e', e = e' + 3 := ⟨e - 3, by omega⟩
            have hcm : c ≤ m := hQ.2.2.2.2.2.2.2.2
            obtain ⟨Q1, F1, ⟨Q3, e3, F3, K3, i3, s3⟩, ea, T1⟩ := RR Q n c t (e + 1) he hQ
            unfold yqs at s3
            rw [ho] at s3
            obtain ⟨a1, a2, a3, a4, a5⟩ := s3
            obtain ⟨Q4, e4, g4, w4, d4, F4⟩ := zs_Rcloses (n := n) (d := e) (x := 93) (yTq_F (by decide) (by decide) F3 T1) a1 k1 a2 a3
            rw [if_neg h93] at w4
            have z4 : Q4.2.1 273 = Q3.2.1 273 := F4.2.1 273 (fun z => by cases z)
            refine ⟨Q4, ?_, yF_t (yF_q0 F1) (yF_t F3 (yF_q0 F4)), yKp_t (Nat.le_refl c) (yKp_t (Nat.le_refl c) (yKp_f F1) K3) (yKp_f F4), fun i hi => by rw [z4, i3 i hi, F1.2.1 273 (fun z => by cases z)], ?_⟩
            · rw [ea, e3, zs_cV, Option.bind_some, zp_Rv, Option.bind_some, e4, zs_cV, Option.bind_some]
            · exact ⟨w4, ysk B len o1.1 + 1, c + X.length, _, g4, d4, by rw [z4]; exact a4, by omega, by omega, by omega⟩
    · have hd6 : dd = 6 := by omega
      subst hd6
      refine ⟨(ysk B len m, none), ⟨sl, trivial⟩, fun P u e he hP => ?_, fun Q n c t e he hQ => ?_⟩
      · obtain ⟨e, rfl⟩ : ∃ e', e = e' + 1 := ⟨e - 1, by omega⟩
        obtain ⟨P1, e1, g1, f1, -⟩ := startC P u e hP
        refine ⟨P1, ?_, yF_p1 f1, g1, fun X hX => by cases hX⟩
        rw [e_LawReader_readsAtom, zp_Y2, Option.bind_some, zp_Pv', Option.bind_some, e1, zs_cI, Option.bind_some, if_pos h91, if_neg (by decide)]
        rfl
      · obtain ⟨e, rfl⟩ : ∃ e', e = e' + 2 := ⟨e - 2, by omega⟩
        obtain ⟨Q1, e1, g1, f1, T1, w1, d1, t1, t5, c1, hcm⟩ := startR Q n c t e hQ
        obtain ⟨Q2, e2, g2, w2, F2⟩ := zs_Ropens6 (n := n) (d := e) g1 w1 d1
        have F12 : yF yfQ [] Q Q2 := yF_t (yF_m f1 (fun x hx => by simp only [List.mem_cons, List.not_mem_nil, or_false] at hx ⊢; exact Or.inl hx) (fun _ h => h)) F2
        refine ⟨Q2, ?_, yF_q0 F12, yKp_f F12, fun i _ => by rw [F12.2.1 273 (fun z => by cases z)], w2, ysk B len m + 1, c, _, g2, rfl, by rw [F2.2.1 273 (fun z => by cases z)]; exact c1, by omega, by omega, by omega⟩
        rw [e_R_atom, zp_Rv, Option.bind_some, e1, zs_cI, Option.bind_some, zs_Rdig, zs_cI, Option.bind_some, zp_ib, h91, show ydgt 91 = false by decide, cond_false, zs_letterOf_n (x := 91) (by decide), zs_cI, Option.bind_some, if_pos rfl, if_pos rfl, zp_Rv, Option.bind_some, e2, zs_cV, Option.bind_some, zp_R4', Option.bind_some, w2, if_neg (zi_n1 (by omega))]
  · by_cases hL : ∃ i, i < 6 ∧ yhb B len (ysk B len m) = ylt i
    · obtain ⟨i, hi, hc⟩ := hL
      obtain ⟨v1, v2, v3, v4⟩ := ylt_v hi
      have hlt : ysk B len m < len := yhb_lt hc v3
      have hb := hB _ hlt
      have ec : yhb B len (ysk B len m) = zi (B (ysk B len m)) := if_pos hlt
      refine ⟨(ysk B len m + 1, some [(1, i)]), ⟨by show ysk B len m + 1 ≤ len; omega, by show m < ysk B len m + 1; omega, by show 1 + m ≤ ysk B len m + 1; omega, fun ts hts => ?_⟩, fun P u e he hP => ?_, fun Q n c t e he hQ => ?_⟩
      · show (yty1 1 i ts).bind (yty []) = _
        unfold yty1
        rw [if_neg (by decide), if_pos rfl, if_pos ⟨hi, by omega⟩]
        rfl
      · obtain ⟨e, rfl⟩ : ∃ e', e = e' + 4 := ⟨e - 4, by omega⟩
        obtain ⟨P1, e1, g1, f1, T1, u1, hum, E1⟩ := startC P u (e + 3) hP
        obtain ⟨P2, hP2⟩ : ∃ P2, P2 = zp_sF P1 13 1 (zi (ysk B len m + 1)) := ⟨_, rfl⟩
        have es := zs_step (d := e + 3) (n := n) g1
        rw [← hP2] at es
        have f2 : yF [(13, 1)] [] P P2 := yF_t f1 (by rw [hP2]; exact yF_f (by decide))
        have u2 : P2.1 24 1 = zi u := by rw [hP2]; exact (zp_f8 (by decide)).trans u1
        have hix : yix [115, 98, 102, 116, 103, 119] 0 (zi (B (ysk B len m))) = zi i := by
          rcases yix_l _ hb.2 with y | ⟨j, hj, y1, y2⟩
          · exfalso
            apply y.2
            rw [← ec, hc]
            match i, hi with
            | 0, _ => decide
            | 1, _ => decide
            | 2, _ => decide
            | 3, _ => decide
            | 4, _ => decide
            | 5, _ => decide
          · rw [y1]
            have : ylt j = ylt i := by rw [← y2, ← ec, hc]
            have hij : ∀ a, a < 6 → ∀ b, b < 6 → ylt a = ylt b → a = b := by decide
            rw [hij j hj i hi this]
        have hv : zk_rv (zp_M P1, n) 7 13 = some () := by
          unfold zk_rv
          show (match zp_M P1 7 with | .inl (c', _) => if c' = 13 then some () else none | .inr _ => none) = _
          rw [zk_kE_p E1 (by decide)]
          rfl
        refine ⟨yem P2 u (-ylt i), ?_, yF_t (yF_p1 f2) yem_F, by rw [yem_m, hP2]; exact zp_f9, fun X hX => ?_⟩
        · have e3 := zs_lettersC (d := e) (L := L) (xs := xs) E1 (c := zi (B (ysk B len m))) (zi_n (by omega)) (fun y => absurd ((zi_l (i := 255) (by decide) (by omega)).mp y) (by omega))
          rw [e_LawReader_readsAtom, zp_Y2, Option.bind_some, zp_Pv', Option.bind_some, e1, zs_cI, Option.bind_some, if_neg h91, if_neg (by rw [hc]; exact v3), hv, Option.bind_some]
          rw [show (Int32.toUInt32 (yhb B len (ysk B len m), zp_M P1, n).1 % 65536).toInt32 = zi (B (ysk B len m)) by rw [← zi_16 _ hb.2]; show (Int32.toUInt32 (yhb B len (ysk B len m)) % 65536).toInt32 = _; rw [ec]]
          rw [e3, zs_cI, Option.bind_some, hix, if_neg (zi_n (by omega)), zp_Y2, Option.bind_some, zp_Pv', Option.bind_some, es, zs_cV, Option.bind_some, zp_Yv, Option.bind_some, hc, zs_emit u2 (by omega), zs_cV, Option.bind_some]
          rfl
        · cases hX
          refine ⟨yem_u, ycs_1 (by rw [v4]; exact yem_9), fun j hj => by rw [yem_8 (by omega), f2.2.1 25 (by decide)]⟩
      · obtain ⟨e, rfl⟩ : ∃ e', e = e' + 2 := ⟨e - 2, by omega⟩
        obtain ⟨Q1, e1, g1, f1, T1, w1, d1, t1, t5, c1, hcm⟩ := startR Q n c t e hQ
        obtain ⟨Q2, hQ2⟩ : ∃ Q2, Q2 = zp_sF Q1 269 3 (zi (ysk B len m + 1)) := ⟨_, rfl⟩
        have f12 : yF [(269, 3)] [] Q1 Q2 := by rw [hQ2]; exact yF_f (by decide)
        have f2 : yF [(269, 3)] [] Q Q2 := yF_t f1 f12
        have t2 : Q2.1 269 14 = zi t := (f12.1 269 14 (by decide)).trans t1
        have c2 : Q2.2.1 273 t = zi c := by rw [f12.2.1 273 (by decide)]; exact c1
        refine ⟨ypt Q2 t c (zi 1) (zi i), ?_, yF_t (yF_q3 f2) ypt_F, yKp_t (Nat.le_refl c) (yKp_f f2) (ypt_K (by omega)), fun j hj => by rw [ypt_i hj, f2.2.1 273 (by decide)], ?_, ?_, ?_, ypt_c, yps_1 ypt_9⟩
        · rw [e_R_atom, zp_Rv, Option.bind_some, e1, zs_cI, Option.bind_some, zs_Rdig, zs_cI, Option.bind_some, zp_ib, hc, v1, cond_false, zs_letterOf hi, zs_cI, Option.bind_some, if_neg (zi_n1 (by omega)), zp_R3', Option.bind_some, g1, zi_s, zp_R3p, Option.bind_some, ← hQ2, zs_letterOf hi, zs_cI, Option.bind_some, zp_Rv, Option.bind_some, show zk_sm (e + 1) m_R_put [.ref 269, .int 1, .int (zi i)] (zp_M Q2, n) = _ from zs_Rput (x := zi 1) t2 t5 c2 (by omega), zs_cV, Option.bind_some]
        · show Q2.1 269 3 = _
          rw [hQ2]; exact zp_f9
        · exact (f12.1 269 4 (by decide)).trans w1
        · exact (f12.1 269 5 (by decide)).trans d1
    · have hno : ¬ (yhb B len (ysk B len m) = 115 ∨ yhb B len (ysk B len m) = 98 ∨ yhb B len (ysk B len m) = 102 ∨ yhb B len (ysk B len m) = 116 ∨ yhb B len (ysk B len m) = 103 ∨ yhb B len (ysk B len m) = 119) := by
        rintro (z | z | z | z | z | z)
        · exact hL ⟨0, by decide, z⟩
        · exact hL ⟨1, by decide, z⟩
        · exact hL ⟨2, by decide, z⟩
        · exact hL ⟨3, by decide, z⟩
        · exact hL ⟨4, by decide, z⟩
        · exact hL ⟨5, by decide, z⟩
      have y2 : yno B len 4 9999 (ysk B len m) = if ydgt (yhb B len (ysk B len m)) = true then ynr B len 9999 (ynu B len 4 (ysk B len m) 0) else (-1, ysk B len m) := by
        unfold yno
        rw [ysk_2]
      cases hdg : ydgt (yhb B len (ysk B len m)) with
      | false =>
        rw [hdg, if_neg Bool.false_ne_true] at y2
        refine ⟨(ysk B len m, none), ⟨sl, trivial⟩, fun P u e he hP => ?_, fun Q n c t e he hQ => ?_⟩
        · obtain ⟨e, rfl⟩ : ∃ e', e = e' + 1 := ⟨e - 1, by omega⟩
          obtain ⟨P1, e1, g1, f1, T1, u1, hum, E1⟩ := startC P u e hP
          obtain ⟨P2, e2, g2, f2⟩ := zs_Cnum (dd := dd) hB T1 g1 hm E1 h91 hL (by omega) e1
          rw [y2] at e2 g2
          refine ⟨P2, ?_, yF_p1 (yF_t f1 f2), g2, fun X hX => by cases hX⟩
          rw [e2, if_pos rfl]
          rfl
        · obtain ⟨e, rfl⟩ : ∃ e', e = e' + 2 := ⟨e - 2, by omega⟩
          obtain ⟨Q1, e1, g1, f1, T1, w1, d1, t1, t5, c1, hcm⟩ := startR Q n c t e hQ
          have F2 : yF [(269, 3), (269, 4)] [] Q (zp_sF Q1 269 4 (zi (ysk B len m))) := yF_t (yF_m f1 (fun x hx => by simp only [List.mem_cons, List.not_mem_nil, or_false] at hx ⊢; exact Or.inl hx) (fun _ h => h)) (yF_f (by decide))
          refine ⟨zp_sF Q1 269 4 (zi (ysk B len m)), ?_, yF_q34 F2, yKp_f F2, fun i _ => by rw [F2.2.1 273 (by decide)], zp_f9, ysk B len m, c, _, (zp_f8 (by decide)).trans g1, rfl, c1, by omega, by omega, by omega⟩
          rw [e_R_atom, zp_Rv, Option.bind_some, e1, zs_cI, Option.bind_some, zs_Rdig, zs_cI, Option.bind_some, zp_ib, hdg, cond_false, zs_letterOf_n hno, zs_cI, Option.bind_some, if_pos rfl, if_neg h91, zp_Rv, Option.bind_some, zs_Rbad g1 w1, zs_cV, Option.bind_some]
      | true =>
        rw [hdg, if_pos rfl] at y2
        obtain ⟨x1, x2, x3⟩ := ynu_4 hB hdg sl
        cases hd5 : ydgt (yhb B len (ynu B len 4 (ysk B len m) 0).1) with
        | true =>
          have y3 : yno B len 4 9999 (ysk B len m) = (-1, (ynu B len 4 (ysk B len m) 0).1) := by rw [y2]; unfold ynr; rw [hd5, if_pos rfl]
          refine ⟨((ynu B len 4 (ysk B len m) 0).1, none), ⟨x2, trivial⟩, fun P u e he hP => ?_, fun Q n c t e he hQ => ?_⟩
          · obtain ⟨e, rfl⟩ : ∃ e', e = e' + 1 := ⟨e - 1, by omega⟩
            obtain ⟨P1, e1, g1, f1, T1, u1, hum, E1⟩ := startC P u e hP
            obtain ⟨P2, e2, g2, f2⟩ := zs_Cnum (dd := dd) hB T1 g1 hm E1 h91 hL (by omega) e1
            rw [y3] at e2 g2
            refine ⟨P2, ?_, yF_p1 (yF_t f1 f2), g2, fun X hX => by cases hX⟩
            rw [e2, if_pos rfl]
            rfl
          · obtain ⟨e, rfl⟩ : ∃ e', e = e' + 2 := ⟨e - 2, by omega⟩
            obtain ⟨Q1, e1, g1, f1, T1, w1, d1, t1, t5, c1, hcm⟩ := startR Q n c t e hQ
            obtain ⟨Q2, e2, g2, w2, f2⟩ := zs_Rplain (n := n) (d := e) T1 g1 w1 sl
            rw [hd5, if_pos rfl] at w2
            have t2 : Q2.1 269 14 = zi t := (f2.1 269 14 (by decide)).trans t1
            have c2 : Q2.2.1 273 t = zi c := by rw [f2.2.1 273 (by decide)]; exact c1
            have F2 : yF yfQ ykQ Q Q2 := yF_t (yF_q3 f1) (yF_q34 f2)
            refine ⟨ypt Q2 t c (zi 0) (zi (ynu B len 4 (ysk B len m) 0).2), ?_, yF_t F2 ypt_F, yKp_t (Nat.le_refl c) (yKp_t (Nat.le_refl c) (yKp_f f1) (yKp_f f2)) (ypt_K (by omega)), fun j hj => by rw [ypt_i hj, f2.2.1 273 (by decide), f1.2.1 273 (by decide)], w2, (ynu B len 4 (ysk B len m) 0).1, c + 1, _, g2, rfl, ypt_c, by omega, by omega, by omega⟩
            rw [e_R_atom, zp_Rv, Option.bind_some, e1, zs_cI, Option.bind_some, zs_Rdig, zs_cI, Option.bind_some, zp_ib, hdg, cond_true, zp_Rv, Option.bind_some, e2, zs_cI, Option.bind_some, zp_Rv, Option.bind_some, show zk_sm (e + 1) m_R_put [.ref 269, .int 0, .int (zi (ynu B len 4 (ysk B len m) 0).2)] (zp_M Q2, n) = _ from zs_Rput (x := zi 0) t2 t5 c2 (by omega), zs_cV, Option.bind_some]
        | false =>
          have y3 : yno B len 4 9999 (ysk B len m) = (zi (ynu B len 4 (ysk B len m) 0).2, (ynu B len 4 (ysk B len m) 0).1) := by
            rw [y2]; unfold ynr
            rw [hd5, if_neg Bool.false_ne_true, if_neg (show ¬ (9999 : Int32) < zi (ynu B len 4 (ysk B len m) 0).2 from fun z => absurd ((zi_l (i := 9999) (by decide) (by omega)).mp z) (by omega))]
          refine ⟨((ynu B len 4 (ysk B len m) 0).1, some [(0, (ynu B len 4 (ysk B len m) 0).2)]), ⟨x2, by show m < (ynu B len 4 (ysk B len m) 0).1; omega, by show 1 + m ≤ (ynu B len 4 (ysk B len m) 0).1; omega, fun ts hts => ?_⟩, fun P u e he hP => ?_, fun Q n c t e he hQ => ?_⟩
          · show (yty1 0 (ynu B len 4 (ysk B len m) 0).2 ts).bind (yty []) = _
            unfold yty1
            rw [if_pos rfl, if_pos ⟨x3, by omega⟩]
            rfl
          · obtain ⟨e, rfl⟩ : ∃ e', e = e' + 2 := ⟨e - 2, by omega⟩
            obtain ⟨P1, e1, g1, f1, T1, u1, hum, E1⟩ := startC P u (e + 1) hP
            obtain ⟨P2, e2, g2, f2⟩ := zs_Cnum (dd := dd) hB T1 g1 hm E1 h91 hL (by omega) e1
            rw [y3] at e2 g2
            have u2 : P2.1 24 1 = zi u := (f2.1 24 1 (by decide)).trans u1
            refine ⟨yem P2 u (zi (ynu B len 4 (ysk B len m) 0).2), ?_, yF_t (yF_p1 (yF_t f1 f2)) yem_F, by rw [yem_m]; exact g2, fun X hX => ?_⟩
            · rw [e2, if_neg (zi_n1 (by omega)), zs_emit u2 (by omega), zs_cV, Option.bind_some]
              rfl
            · cases hX
              refine ⟨yem_u, ycs_1 yem_9, fun j hj => by rw [yem_8 (by omega), f2.2.1 25 (by decide), f1.2.1 25 (by decide)]⟩
          · obtain ⟨e, rfl⟩ : ∃ e', e = e' + 2 := ⟨e - 2, by omega⟩
            obtain ⟨Q1, e1, g1, f1, T1, w1, d1, t1, t5, c1, hcm⟩ := startR Q n c t e hQ
            obtain ⟨Q2, e2, g2, w2, f2⟩ := zs_Rplain (n := n) (d := e) T1 g1 w1 sl
            rw [hd5, if_neg Bool.false_ne_true] at w2
            have t2 : Q2.1 269 14 = zi t := (f2.1 269 14 (by decide)).trans t1
            have c2 : Q2.2.1 273 t = zi c := by rw [f2.2.1 273 (by decide)]; exact c1
            have F2 : yF yfQ ykQ Q Q2 := yF_t (yF_q3 f1) (yF_q34 f2)
            refine ⟨ypt Q2 t c (zi 0) (zi (ynu B len 4 (ysk B len m) 0).2), ?_, yF_t F2 ypt_F, yKp_t (Nat.le_refl c) (yKp_t (Nat.le_refl c) (yKp_f f1) (yKp_f f2)) (ypt_K (by omega)), fun j hj => by rw [ypt_i hj, f2.2.1 273 (by decide), f1.2.1 273 (by decide)], g2, w2, (f2.1 269 5 (by decide)).trans d1, ypt_c, yps_1 ypt_9⟩
            rw [e_R_atom, zp_Rv, Option.bind_some, e1, zs_cI, Option.bind_some, zs_Rdig, zs_cI, Option.bind_some, zp_ib, hdg, cond_true, zp_Rv, Option.bind_some, e2, zs_cI, Option.bind_some, zp_Rv, Option.bind_some, show zk_sm (e + 1) m_R_put [.ref 269, .int 0, .int (zi (ynu B len 4 (ysk B len m) 0).2)] (zp_M Q2, n) = _ from zs_Rput (x := zi 0) t2 t5 c2 (by omega), zs_cV, Option.bind_some]
end
