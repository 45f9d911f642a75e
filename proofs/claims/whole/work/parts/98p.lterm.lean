/-! PARSING 6: laws: terms -/
def ytyL (k : Nat) (X : List (Nat × Nat)) : Prop := ∀ ts : List Bool, ts.length ≤ k → yty X (false :: ts) = some (false :: ts)
theorem yps_k {Q Q' : zp} {t c c2 : Nat} {X : List (Nat × Nat)} (h : yps Q t c X) (k : yKp t c2 Q Q') (hc : c + X.length ≤ c2) : yps Q' t c X := fun j o hj => by
  have hl := (List.getElem?_eq_some_iff.mp hj).1
  obtain ⟨a, b⟩ := k (520 * t + c + j) (Or.inl (by omega))
  rw [a, b]; exact h j o hj
theorem ycs_k {P P' : zp} {u u2 : Nat} {X : List (Nat × Nat)} (h : ycs P u X) (k : ∀ j, j < u2 → P'.2.1 25 j = P.2.1 25 j) (hc : u + X.length ≤ u2) : ycs P' u X := fun j o hj => by
  have hl := (List.getElem?_eq_some_iff.mp hj).1
  rw [k (u + j) (by omega)]; exact h j o hj
theorem eC_Term {d a0 : Nat} {i1 cs k : Int32} {s : zk_S} (h : cs = 42 ∨ cs = 47) (hk : ¬ 240 < k) : zk_sf (d + 1) m_LawReader_readsTerm 20 [.ref a0, .int i1, .int cs, .int k] [] s = (zk_gR s a0 2 2).bind fun b1 => (zk_rv s b1 9).bind fun _ => (zk_cV (zk_sm d m_Tape_step [.ref b1] s)).bind fun t2 => (zk_rv t2 a0 2).bind fun _ => (zk_cI (zk_sm d m_LawReader_readsAtom [.ref a0, .int i1] t2)).bind fun p3 => if p3.1 = 0 then some (some (.int 0), p3.2) else (zk_rv p3.2 a0 2).bind fun _ => (zk_cV (zk_sm d m_LawReader_emit [.ref a0, .int (-cs)] p3.2)).bind fun t4 => (zk_gR t4 a0 2 2).bind fun b5 => (zk_rv t4 b5 9).bind fun _ => (zk_cI (zk_sm d m_Tape_sign [.ref b5] t4)).bind fun p6 => zk_sf (d + 1) m_LawReader_readsTerm 20 [.ref a0, .int i1, .int p6.1, .int (k + 1)] [] p6.2 := by
  rcases h with rfl | rfl
  · rw [e_LawReader_readsTerm_20, if_neg hk, if_pos rfl]
  · rw [e_LawReader_readsTerm_20, if_neg hk, if_neg (by decide), if_pos rfl]
theorem eR_Term {d a0 p : Nat} {cs : Int32} {s : zk_S} (h : cs = 42 ∧ p = 4 ∨ cs = 47 ∧ p = 5) : zk_sf (d + 1) m_R_term 21 [.ref a0, .int cs] [] s = (zk_gI s a0 12 3).bind fun x1 => (zk_pf s a0 12 3 (.int (x1 + 1))).bind fun t2 => (zk_rv t2 a0 12).bind fun _ => (zk_cV (zk_sm d m_R_atom [.ref a0] t2)).bind fun t3 => (zk_rv t3 a0 12).bind fun _ => (zk_cV (zk_sm d m_R_put [.ref a0, .int (zi p), .int (zi 0)] t3)).bind fun t4 => (zk_gI t4 a0 12 4).bind fun x5 => if x5 = -1 then (zk_rv t4 a0 12).bind fun _ => (zk_cI (zk_sm d m_R_look [.ref a0] t4)).bind fun p6 => zk_sf (d + 1) m_R_term 21 [.ref a0, .int p6.1] [] p6.2 else zk_sf (d + 1) m_R_term 21 [.ref a0, .int (-1)] [] t4 := by
  rcases h with ⟨rfl, rfl⟩ | ⟨rfl, rfl⟩
  · rw [e_R_term_21, if_pos rfl]
    rfl
  · rw [e_R_term_21, if_neg (by decide), if_pos rfl]
    rfl
section
variable {n : Nat × Nat} {L len m dd : Nat} {xs : Nat → Int32} {B : Nat → Nat}
set_option maxHeartbeats 2000000 in
theorem yR_Term_l (h240 : len ≤ 240) (h6 : dd ≤ 6) (hG : ∀ m', m ≤ m' → m' ≤ len → yRd n L xs B len m' dd (3 * (6 - dd) + 6) m_LawReader_readsAtom m_R_atom [.int (zi dd)] (ytyF (2 * dd + 5))) : ∀ (j q k : Nat), len - q = j → m ≤ q → q ≤ len → k ≤ q → ∃ o : yPr, (o.1 ≤ len ∧ ∀ X, o.2 = some X → X.length + q ≤ o.1 ∧ ytyL (2 * dd + 4) X) ∧ (∀ (P : zp) (u e : Nat), 3 * (6 - dd) + 7 ≤ e → yc0 n L xs B len q u P → yc9 n (zk_sf e m_LawReader_readsTerm 20 [.ref 24, .int (zi dd), .int (yhb B len q), .int (zi k)] [] (zp_M P, n)) u o P) ∧ ∀ (Q : zp) (n : Nat × Nat) (c t e : Nat), 3 * (6 - dd) + 7 ≤ e → yq0 B len q c dd t Q → yq9 n (zk_sf e m_R_term 21 [.ref 269, .int (yhb B len q)] [] (zp_M Q, n)) len q c dd t o Q := by
  intro j
  induction j using Nat.strongRecOn with
  | _ j ihj =>
  intro q k hj hmq hq hkq
  have hk : ¬ (240 : Int32) < zi k := fun z => absurd ((zi_l (i := 240) (by decide) (by omega)).mp z) (by omega)
  by_cases hcs : yhb B len q = 42 ∨ yhb B len q = 47
  · obtain ⟨p, hp, hp2⟩ : ∃ p, (yhb B len q = 42 ∧ p = 4 ∨ yhb B len q = 47 ∧ p = 5) ∧ yec (p, 0) = -yhb B len q := by
      rcases hcs with z | z
      · exact ⟨4, Or.inl ⟨z, rfl⟩, by rw [z]; decide⟩
      · exact ⟨5, Or.inr ⟨z, rfl⟩, by rw [z]; decide⟩
    have hpt : ∀ ts : List Bool, yty1 p 0 (false :: false :: ts) = some (false :: ts) := by
      intro ts
      rcases hp with ⟨-, rfl⟩ | ⟨-, rfl⟩ <;> rfl
    have hlt : q < len := by
      rcases hcs with z | z
      · exact yhb_lt z (by decide)
      · exact yhb_lt z (by decide)
    obtain ⟨o1, ⟨k1, k2⟩, oC, oR⟩ := hG (q + 1) (by omega) hlt
    have CC : ∀ (P : zp) (u e : Nat), 3 * (6 - dd) + 7 ≤ e + 1 → yc0 n L xs B len q u P → ∃ P1, yF yfP [25] P P1 ∧ yc9 n (zk_sm e m_LawReader_readsAtom [.ref 24, .int (zi dd)] (zp_M P1, n)) u o1 P1 ∧ zk_sf (e + 1) m_LawReader_readsTerm 20 [.ref 24, .int (zi dd), .int (yhb B len q), .int (zi k)] [] (zp_M P, n) = ((zk_cI (zk_sm e m_LawReader_readsAtom [.ref 24, .int (zi dd)] (zp_M P1, n))).bind fun p3 => if p3.1 = 0 then some (some (.int 0), p3.2) else (zk_rv p3.2 24 2).bind fun _ => (zk_cV (zk_sm e m_LawReader_emit [.ref 24, .int (-yhb B len q)] p3.2)).bind fun t4 => (zk_gR t4 24 2 2).bind fun b5 => (zk_rv t4 b5 9).bind fun _ => (zk_cI (zk_sm e m_Tape_sign [.ref b5] t4)).bind fun p6 => zk_sf (e + 1) m_LawReader_readsTerm 20 [.ref 24, .int (zi dd), .int p6.1, .int (zi (k + 1))] [] p6.2) ∧ (∀ j, P1.2.1 25 j = P.2.1 25 j) ∧ yTp P1 B len ∧ zk_kE L xs (zp_M P1, n) ∧ u ≤ q := by
      rintro P u e he ⟨c1, c2, c3, c4, c5, c6⟩
      obtain ⟨P2, hP2⟩ : ∃ P2, P2 = zp_sF P 13 1 (zi (q + 1)) := ⟨_, rfl⟩
      have es := zs_step (d := e) (n := n) c2
      rw [← hP2] at es
      have f2 : yF [(13, 1)] [] P P2 := by rw [hP2]; exact yF_f (by decide)
      have T2 := yTp_F (by decide) (by decide) f2 c1
      have E2 := zk_sm_k es c6
      refine ⟨P2, yF_p1 f2, oC P2 u e (by omega) ⟨T2, by rw [hP2]; exact zp_f9, hlt, (f2.1 24 1 (by decide)).trans c4, by omega, E2⟩, ?_, fun j => by rw [f2.2.1 25 (by decide)], T2, E2, c5⟩
      rw [eC_Term hcs hk, zp_Y2, Option.bind_some, zp_Pv', Option.bind_some, es, zs_cV, Option.bind_some, zp_Yv, Option.bind_some, zi_s]
    have RR : ∀ (Q : zp) (n : Nat × Nat) (c t e : Nat), 3 * (6 - dd) + 7 ≤ e + 1 → yq0 B len q c dd t Q → ∃ Q1, yF [(269, 3)] [] Q Q1 ∧ yq9 n (zk_sm e m_R_atom [.ref 269] (zp_M Q1, n)) len (q + 1) c dd t o1 Q1 ∧ zk_sf (e + 1) m_R_term 21 [.ref 269, .int (yhb B len q)] [] (zp_M Q, n) = ((zk_cV (zk_sm e m_R_atom [.ref 269] (zp_M Q1, n))).bind fun t3 => (zk_rv t3 269 12).bind fun _ => (zk_cV (zk_sm e m_R_put [.ref 269, .int (zi p), .int (zi 0)] t3)).bind fun t4 => (zk_gI t4 269 12 4).bind fun x5 => if x5 = -1 then (zk_rv t4 269 12).bind fun _ => (zk_cI (zk_sm e m_R_look [.ref 269] t4)).bind fun p6 => zk_sf (e + 1) m_R_term 21 [.ref 269, .int p6.1] [] p6.2 else zk_sf (e + 1) m_R_term 21 [.ref 269, .int (-1)] [] t4) ∧ yTq Q1 B len ∧ Q1.1 269 14 = zi t ∧ t < 5 ∧ c ≤ q := by
      rintro Q n c t e he ⟨q1, q2, q3, q4, q5, q6, q7, q8, q9⟩
      obtain ⟨Q2, hQ2⟩ : ∃ Q2, Q2 = zp_sF Q 269 3 (zi (q + 1)) := ⟨_, rfl⟩
      have f2 : yF [(269, 3)] [] Q Q2 := by rw [hQ2]; exact yF_f (by decide)
      have T2 := yTq_F (by decide) (by decide) f2 q1
      have t2 : Q2.1 269 14 = zi t := (f2.1 269 14 (by decide)).trans q6
      refine ⟨Q2, f2, oR Q2 n c t e (by omega) ⟨T2, by rw [hQ2]; exact zp_f9, hlt, (f2.1 269 4 (by decide)).trans q4, (f2.1 269 5 (by decide)).trans q5, t2, q7, by rw [f2.2.1 273 (by decide)]; exact q8, by omega⟩, ?_, T2, t2, q7, q9⟩
      rw [eR_Term hp, zp_R3', Option.bind_some, q2, zi_s, zp_R3p, Option.bind_some, ← hQ2, zp_Rv, Option.bind_some]
    cases ho : o1.2 with
    | none =>
      refine ⟨(o1.1, none), ⟨k1, fun X hX => by cases hX⟩, fun P u e he hP => ?_, fun Q n c t e he hQ => ?_⟩
      · obtain ⟨e, rfl⟩ : ∃ e', e = e' + 1 := ⟨e - 1, by omega⟩
        obtain ⟨P1, F1, ⟨P3, e3, F3, g3, -⟩, ea, -, -, -⟩ := CC P u e he hP
        refine ⟨P3, ?_, yF_t F1 F3, g3, fun X hX => by cases hX⟩
        rw [ea, e3, zs_cI, Option.bind_some, show yob o1 = 0 by unfold yob; rw [ho], if_pos rfl]
        rfl
      · obtain ⟨e, rfl⟩ : ∃ e', e = e' + 1 := ⟨e - 1, by omega⟩
        obtain ⟨Q1, F1, ⟨Q3, e3, F3, K3, i3, s3⟩, ea, T1, t1, t5, hcq⟩ := RR Q n c t e he hQ
        unfold yqs at s3
        rw [ho] at s3
        obtain ⟨w3, a, c', dv, a1, a2, a3, a0, a4, a5⟩ := s3
        have t3 : Q3.1 269 14 = zi t := (F3.1 269 14 (by decide)).trans t1
        have hc5 : c' < 520 := by omega
        refine ⟨ypt Q3 t c' (zi p) (zi 0), ?_, yF_t (yF_q3 F1) (yF_t F3 ypt_F), yKp_t (Nat.le_refl c) (yKp_f F1) (yKp_t a0 K3 (ypt_K hc5)), fun i hi => by rw [ypt_i hi, i3 i hi, F1.2.1 273 (by decide)], ?_⟩
        · rw [ea, e3, zs_cV, Option.bind_some, zp_Rv, Option.bind_some, zs_Rput t3 t5 a3 hc5, zs_cV, Option.bind_some, zp_R4', Option.bind_some, show (ypt Q3 t c' (zi p) (zi 0)).1 269 4 = zi o1.1 from w3, if_neg (zi_n1 (by omega)), e_R_term_21, if_neg (by decide), if_neg (by decide)]
        · exact ⟨w3, a, c' + 1, dv, a1, a2, ypt_c, by omega, by omega, a5⟩
    | some Y =>
      rw [ho] at k2
      obtain ⟨k2, k3, k4⟩ := k2
      have sg2 := @ysk_ge B len o1.1
      have sl2 := ysk_le (B := B) k1
      obtain ⟨o2, ⟨b1, b2⟩, o2C, o2R⟩ := ihj (len - ysk B len o1.1) (by omega) (ysk B len o1.1) (k + 1) rfl (by omega) sl2 (by omega)
      refine ⟨(o2.1, o2.2.map (fun Z => Y ++ (p, 0) :: Z)), ⟨b1, fun X hX => ?_⟩, fun P u e he hP => ?_, fun Q n c t e he hQ => ?_⟩
      · obtain ⟨Z, hZ, rfl⟩ := Option.map_eq_some_iff.mp hX
        obtain ⟨z1, z2⟩ := b2 Z hZ
        refine ⟨?_, fun ts hts => ?_⟩
        · rw [List.length_append, List.length_cons]
          show _ ≤ o2.1
          omega
        · rw [yty_a, k4 (false :: ts) (by rw [List.length_cons]; omega), Option.bind_some]
          show (yty1 p 0 (false :: false :: ts)).bind (yty Z) = _
          rw [hpt, Option.bind_some, z2 ts hts]
      · obtain ⟨e, rfl⟩ : ∃ e', e = e' + 2 := ⟨e - 2, by omega⟩
        obtain ⟨P1, F1, ⟨P3, e3, F3, g3, X3⟩, ea, u25, T1, E1, huq⟩ := CC P u (e + 1) he hP
        obtain ⟨x1, x2, x3⟩ := X3 Y ho
        have E3 := zk_sm_k e3 E1
        have ee := zs_emit (d := e) (n := n) (x := -yhb B len q) x1 (by omega)
        obtain ⟨P4, hP4⟩ : ∃ P4, P4 = yem P3 (u + Y.length) (-yhb B len q) := ⟨_, rfl⟩
        rw [← hP4] at ee
        have F4 : yF yfP [25] P3 P4 := by rw [hP4]; exact yem_F
        have g4 : P4.1 13 1 = zi o1.1 := by rw [hP4, yem_m]; exact g3
        have T4 := yTp_F (by decide) (by decide) (yF_t F3 F4) T1
        obtain ⟨P5, e5, g5, f5⟩ := zs_sign (d := e + 1) (n := n) T4 g4 k1
        have u5 : P5.1 24 1 = zi (u + Y.length + 1) := by rw [f5.1 24 1 (by decide), hP4]; exact yem_u
        obtain ⟨P6, e6, F6, g6, X6⟩ := o2C P5 (u + Y.length + 1) (e + 2) (by omega) ⟨yTp_F (by decide) (by decide) f5 T4, g5, sl2, u5, by omega, zk_sm_k e5 (zk_sm_k ee E3)⟩
        refine ⟨P6, ?_, yF_t F1 (yF_t F3 (yF_t F4 (yF_t (yF_p1 f5) F6))), g6, fun X hX => ?_⟩
        · rw [ea, e3, zs_cI, Option.bind_some, show yob o1 = 1 by unfold yob; rw [ho], if_neg zi_1n, zp_Yv, Option.bind_some, ee, zs_cV, Option.bind_some, zp_Y2, Option.bind_some, zp_Pv', Option.bind_some, e5, zs_cI, Option.bind_some, e6]
          cases hz : o2.2 <;> (unfold yob; rw [hz]; rfl)
        · obtain ⟨Z, hZ, rfl⟩ := Option.map_eq_some_iff.mp hX
          obtain ⟨y1, y2, y3⟩ := X6 Z hZ
          have k6 : ∀ j, j < u + Y.length + 1 → P6.2.1 25 j = P4.2.1 25 j := fun j hj => by rw [y3 j hj, f5.2.1 25 (by decide)]
          refine ⟨?_, ycs_a ?_ (ycs_a (X := [(p, 0)]) ?_ y2), fun j hj => ?_⟩
          · rw [y1, List.length_append, List.length_cons, show u + (Y.length + (Z.length + 1)) = u + Y.length + 1 + Z.length by omega]
          · intro i o hi
            have hl := (List.getElem?_eq_some_iff.mp hi).1
            rw [k6 _ (by omega), hP4, yem_8 (by omega)]
            exact x2 i o hi
          · refine ycs_1 ?_
            rw [k6 _ (by omega), hP4, hp2]; exact yem_9
          · rw [k6 j (by omega), hP4, yem_8 (by omega), x3 j hj, u25 j]
      · obtain ⟨e, rfl⟩ : ∃ e', e = e' + 2 := ⟨e - 2, by omega⟩
        obtain ⟨Q1, F1, ⟨Q3, e3, F3, K3, i3, s3⟩, ea, T1, t1, t5, hcq⟩ := RR Q n c t (e + 1) he hQ
        unfold yqs at s3
        rw [ho] at s3
        obtain ⟨a1, a2, a3, a4, a5⟩ := s3
        have t3 : Q3.1 269 14 = zi t := (F3.1 269 14 (by decide)).trans t1
        have hc5 : c + Y.length < 520 := by omega
        obtain ⟨Q4, hQ4⟩ : ∃ Q4, Q4 = ypt Q3 t (c + Y.length) (zi p) (zi 0) := ⟨_, rfl⟩
        have ep := zs_Rput (d := e + 1) (n := n) (x := zi p) (y := zi 0) t3 t5 a4 hc5
        rw [← hQ4] at ep
        have F4 : yF yfQ ykQ Q3 Q4 := by rw [hQ4]; exact ypt_F
        have K4 : yKp t (c + Y.length) Q3 Q4 := by rw [hQ4]; exact ypt_K hc5
        have g4 : Q4.1 269 3 = zi o1.1 := by rw [hQ4]; exact a1
        have w4 : Q4.1 269 4 = -1 := by rw [hQ4]; exact a2
        have d4 : Q4.1 269 5 = zi dd := by rw [hQ4]; exact a3
        have T4 := yTq_F (by decide) (by decide) (yF_t F3 F4) T1
        obtain ⟨Q5, e5, g5, f5⟩ := zs_Rlook (d := e) (n := n) T4 g4 (by omega)
        obtain ⟨Q6, e6, F6, K6, i6, s6⟩ := o2R Q5 n (c + Y.length + 1) t (e + 2) (by omega) ⟨yTq_F (by decide) (by decide) f5 T4, g5, sl2, (f5.1 269 4 (by decide)).trans w4, (f5.1 269 5 (by decide)).trans d4, ((f5.1 269 14 (by decide)).trans (F4.1 269 14 (by decide))).trans t3, t5, by rw [f5.2.1 273 (by decide), hQ4]; exact ypt_c, by omega⟩
        refine ⟨Q6, ?_, yF_t (yF_q3 F1) (yF_t F3 (yF_t F4 (yF_t (yF_q3 f5) F6))), yKp_t (Nat.le_refl c) (yKp_f F1) (yKp_t (Nat.le_add_right c Y.length) K3 (yKp_t (Nat.le_succ _) K4 (yKp_t (Nat.le_refl _) (yKp_f f5) K6))), fun i hi => by rw [i6 i hi, f5.2.1 273 (by decide), hQ4, ypt_i hi, i3 i hi, F1.2.1 273 (by decide)], ?_⟩
        · rw [ea, e3, zs_cV, Option.bind_some, zp_Rv, Option.bind_some, ep, zs_cV, Option.bind_some, zp_R4', Option.bind_some, w4, if_pos rfl, zp_Rv, Option.bind_some, e5, zs_cI, Option.bind_some, e6]
        · unfold yqs at s6 ⊢
          cases hz : o2.2 with
          | none =>
            rw [hz] at s6
            obtain ⟨w6, a, c', dv, y1, y2, y3, y0, y4, y5⟩ := s6
            exact ⟨w6, a, c', dv, y1, y2, y3, by omega, by omega, y5⟩
          | some Z =>
            rw [hz] at s6
            obtain ⟨y1, y2, y3, y4, y5⟩ := s6
            refine ⟨y1, y2, y3, ?_, yps_a (yps_k (yps_k (yps_k a5 K4 (Nat.le_refl _)) (yKp_f f5) (Nat.le_refl _)) K6 (Nat.le_succ _)) (yps_a (X := [(p, 0)]) (yps_k (yps_k (c2 := c + Y.length + 1) (yps_1 (by rw [hQ4]; exact ypt_9)) (yKp_f f5) (Nat.le_refl _)) K6 (Nat.le_refl _)) y5)⟩
            rw [y4, List.length_append, List.length_cons, show c + (Y.length + (Z.length + 1)) = c + Y.length + 1 + Z.length by omega]
  · refine ⟨(q, some []), ⟨hq, fun X hX => ?_⟩, fun P u e he hP => ?_, fun Q n c t e he hQ => ?_⟩
    · cases hX
      exact ⟨Nat.le_of_eq (Nat.zero_add q), fun ts _ => rfl⟩
    · obtain ⟨e, rfl⟩ : ∃ e', e = e' + 1 := ⟨e - 1, by omega⟩
      obtain ⟨c1, c2, c3, c4, c5, c6⟩ := hP
      refine ⟨P, ?_, yF_r, c2, fun X hX => ?_⟩
      · rw [e_LawReader_readsTerm_20, if_neg hk, if_neg (fun z => hcs (Or.inl z)), if_neg (fun z => hcs (Or.inr z))]
        rfl
      · cases hX
        exact ⟨c4, fun j o hj => (by cases hj), fun _ _ => rfl⟩
    · obtain ⟨e, rfl⟩ : ∃ e', e = e' + 1 := ⟨e - 1, by omega⟩
      obtain ⟨q1, q2, q3, q4, q5, q6, q7, q8, q9⟩ := hQ
      refine ⟨Q, ?_, yF_r, yKp_r, fun _ _ => rfl, q2, q4, q5, q8, fun j o hj => (by cases hj)⟩
      rw [e_R_term_21, if_neg (fun z => hcs (Or.inl z)), if_neg (fun z => hcs (Or.inr z))]
set_option maxHeartbeats 2000000 in
theorem yR_Term (h240 : len ≤ 240) (hm : m ≤ len) (h6 : dd ≤ 6) (hG : ∀ m', m ≤ m' → m' ≤ len → yRd n L xs B len m' dd (3 * (6 - dd) + 6) m_LawReader_readsAtom m_R_atom [.int (zi dd)] (ytyF (2 * dd + 5))) : yRd n L xs B len m dd (3 * (6 - dd) + 7) m_LawReader_readsTerm m_R_term [.int (zi dd)] (ytyF (2 * dd + 4)) := by
  obtain ⟨o1, ⟨k1, k2⟩, oC, oR⟩ := hG m (Nat.le_refl m) hm
  cases ho : o1.2 with
  | none =>
    refine ⟨(o1.1, none), ⟨k1, trivial⟩, fun P u e he hP => ?_, fun Q n c t e he hQ => ?_⟩
    · obtain ⟨e, rfl⟩ : ∃ e', e = e' + 1 := ⟨e - 1, by omega⟩
      obtain ⟨P3, e3, F3, g3, -⟩ := oC P u e (by omega) hP
      refine ⟨P3, ?_, F3, g3, fun X hX => by cases hX⟩
      rw [e_LawReader_readsTerm, zp_Yv, Option.bind_some, e3, zs_cI, Option.bind_some, show yob o1 = 0 by unfold yob; rw [ho], if_pos rfl]
      rfl
    · obtain ⟨e, rfl⟩ : ∃ e', e = e' + 1 := ⟨e - 1, by omega⟩
      obtain ⟨Q3, e3, F3, K3, i3, s3⟩ := oR Q n c t e (by omega) hQ
      unfold yqs at s3
      rw [ho] at s3
      refine ⟨Q3, ?_, F3, K3, i3, s3⟩
      rw [e_R_term, zp_Rv, Option.bind_some, e3, zs_cV, Option.bind_some, zp_R4', Option.bind_some, s3.1, if_neg (zi_n1 (by omega)), e_R_term_21, if_neg (by decide), if_neg (by decide)]
  | some Y =>
    rw [ho] at k2
    obtain ⟨k2, k3, k4⟩ := k2
    have sg2 := @ysk_ge B len o1.1
    have sl2 := ysk_le (B := B) k1
    obtain ⟨o2, ⟨b1, b2⟩, o2C, o2R⟩ := yR_Term_l (n := n) (L := L) (xs := xs) (B := B) h240 h6 hG (len - ysk B len o1.1) (ysk B len o1.1) 0 rfl (by omega) sl2 (Nat.zero_le _)
    refine ⟨(o2.1, o2.2.map (fun Z => Y ++ Z)), ⟨b1, ?_⟩, fun P u e he hP => ?_, fun Q n c t e he hQ => ?_⟩
    · cases hz : o2.2 with
      | none => trivial
      | some Z =>
        obtain ⟨z1, z2⟩ := b2 Z hz
        refine ⟨?_, ?_, fun ts hts => ?_⟩
        · show m < o2.1
          omega
        · show (Y ++ Z).length + m ≤ o2.1
          rw [List.length_append]
          omega
        · rw [yty_a, k4 ts (by omega), Option.bind_some, z2 ts hts]
    · obtain ⟨e, rfl⟩ : ∃ e', e = e' + 1 := ⟨e - 1, by omega⟩
      have huq : u ≤ m := hP.2.2.2.2.1
      obtain ⟨P3, e3, F3, g3, X3⟩ := oC P u e (by omega) hP
      obtain ⟨x1, x2, x3⟩ := X3 Y ho
      have E3 := zk_sm_k e3 hP.2.2.2.2.2
      have T3 := yTp_F (by decide) (by decide) F3 hP.1
      obtain ⟨P5, e5, g5, f5⟩ := zs_sign (d := e) (n := n) T3 g3 k1
      obtain ⟨P6, e6, F6, g6, X6⟩ := o2C P5 (u + Y.length) (e + 1) he ⟨yTp_F (by decide) (by decide) f5 T3, g5, sl2, (f5.1 24 1 (by decide)).trans x1, by omega, zk_sm_k e5 E3⟩
      refine ⟨P6, ?_, yF_t F3 (yF_t (yF_p1 f5) F6), g6, fun X hX => ?_⟩
      · rw [e_LawReader_readsTerm, zp_Yv, Option.bind_some, e3, zs_cI, Option.bind_some, show yob o1 = 1 by unfold yob; rw [ho], if_neg zi_1n, zp_Y2, Option.bind_some, zp_Pv', Option.bind_some, e5, zs_cI, Option.bind_some, show zk_sf (e + 1) m_LawReader_readsTerm 20 [.ref 24, .int (zi dd), .int (yhb B len (ysk B len o1.1)), .int 0] [] (zp_M P5, n) = _ from e6]
        cases hz : o2.2 <;> (unfold yob; rw [hz]; rfl)
      · obtain ⟨Z, hZ, rfl⟩ := Option.map_eq_some_iff.mp hX
        obtain ⟨y1, y2, y3⟩ := X6 Z hZ
        have k6 : ∀ j, j < u + Y.length → P6.2.1 25 j = P3.2.1 25 j := fun j hj => by rw [y3 j hj, f5.2.1 25 (by decide)]
        refine ⟨?_, ycs_a (ycs_k x2 k6 (Nat.le_refl _)) y2, fun j hj => ?_⟩
        · rw [y1, List.length_append, Nat.add_assoc]
        · rw [k6 j (by omega), x3 j hj]
    · obtain ⟨e, rfl⟩ : ∃ e', e = e' + 2 := ⟨e - 2, by omega⟩
      have hcq : c ≤ m := hQ.2.2.2.2.2.2.2.2
      have t5 : t < 5 := hQ.2.2.2.2.2.2.1
      obtain ⟨Q3, e3, F3, K3, i3, s3⟩ := oR Q n c t (e + 1) (by omega) hQ
      unfold yqs at s3
      rw [ho] at s3
      obtain ⟨a1, a2, a3, a4, a5⟩ := s3
      have t3 : Q3.1 269 14 = zi t := (F3.1 269 14 (by decide)).trans hQ.2.2.2.2.2.1
      have T3 := yTq_F (by decide) (by decide) F3 hQ.1
      obtain ⟨Q5, e5, g5, f5⟩ := zs_Rlook (d := e) (n := n) T3 a1 (by omega)
      obtain ⟨Q6, e6, F6, K6, i6, s6⟩ := o2R Q5 n (c + Y.length) t (e + 2) he ⟨yTq_F (by decide) (by decide) f5 T3, g5, sl2, (f5.1 269 4 (by decide)).trans a2, (f5.1 269 5 (by decide)).trans a3, (f5.1 269 14 (by decide)).trans t3, t5, by rw [f5.2.1 273 (by decide)]; exact a4, by omega⟩
      refine ⟨Q6, ?_, yF_t F3 (yF_t (yF_q3 f5) F6), yKp_t (Nat.le_add_right c Y.length) K3 (yKp_t (Nat.le_refl _) (yKp_f f5) K6), fun i hi => by rw [i6 i hi, f5.2.1 273 (by decide), i3 i hi], ?_⟩
      · rw [e_R_term, zp_Rv, Option.bind_some, e3, zs_cV, Option.bind_some, zp_R4', Option.bind_some, a2, if_pos rfl, zp_Rv, Option.bind_some, e5, zs_cI, Option.bind_some, e6]
      · unfold yqs at s6 ⊢
        cases hz : o2.2 with
        | none =>
          rw [hz] at s6
          obtain ⟨w6, a, c', dv, y1, y2, y3, y0, y4, y5⟩ := s6
          exact ⟨w6, a, c', dv, y1, y2, y3, by omega, by omega, y5⟩
        | some Z =>
          rw [hz] at s6
          obtain ⟨y1, y2, y3, y4, y5⟩ := s6
          refine ⟨y1, y2, y3, ?_, yps_a (yps_k (yps_k a5 (yKp_f f5) (Nat.le_refl _)) K6 (Nat.le_refl _)) y5⟩
          rw [y4, List.length_append, Nat.add_assoc]
end
