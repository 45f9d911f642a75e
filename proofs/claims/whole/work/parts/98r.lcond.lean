/-! PARSING 8: laws: readers one behind another, loops of readers -/
def yc9x (n : Nat × Nat) (L : Nat) (xs : Nat → Int32) (r : Option zk_R) (u : Nat) (o : yPr) (P : zp) : Prop := ∃ P', r = some (some (.int (yob o)), (zp_M P', n)) ∧ yF yfP [25] P P' ∧ P'.1 13 1 = zi o.1 ∧ zk_kE L xs (zp_M P', n) ∧ ∀ X, o.2 = some X → P'.1 24 1 = zi (u + X.length) ∧ ycs P' u X ∧ ∀ j, j < u → P'.2.1 25 j = P.2.1 25 j
def yRx (n : Nat × Nat) (L : Nat) (xs : Nat → Int32) (B : Nat → Nat) (len m dd D : Nat) (fC fR : Nat → zk_S → Option zk_R) (ty : List (Nat × Nat) → Prop) : Prop := ∃ o : yPr, (o.1 ≤ len ∧ ∀ X, o.2 = some X → X.length + m ≤ o.1 ∧ ty X) ∧ (∀ (P : zp) (u e : Nat), D ≤ e → yc0 n L xs B len m u P → yc9x n L xs (fC e (zp_M P, n)) u o P) ∧ ∀ (Q : zp) (n : Nat × Nat) (c t e : Nat), D ≤ e → yq0 B len m c dd t Q → yq9 n (fR e (zp_M Q, n)) len m c dd t o Q
def ytyLT (k : Nat) (X : List (Nat × Nat)) : Prop := ∀ ts : List Bool, ts.length ≤ k → yty X (true :: ts) = some (true :: ts)
def ytyLC (k : Nat) (X : List (Nat × Nat)) : Prop := ∀ ts : List Bool, ts.length ≤ k → yty X (false :: ts) = some (true :: ts)
theorem yRx_d {n : Nat × Nat} {L : Nat} {xs : Nat → Int32} {B : Nat → Nat} {len m dd D f g : Nat} {as : List Value} {ty : List (Nat × Nat) → Prop} (h : yRd n L xs B len m dd D f g as ty) : yRx n L xs B len m dd D (fun e s => zk_sm e f (.ref 24 :: as) s) (fun e s => zk_sm e g [.ref 269] s) ty := by
  obtain ⟨o, ⟨a, b⟩, oC, oR⟩ := h
  refine ⟨o, ⟨a, fun X hX => ?_⟩, fun P u e he hP => ?_, oR⟩
  · rw [hX] at b
    exact ⟨b.2.1, b.2.2⟩
  · obtain ⟨P', e1, f1, g1, x1⟩ := oC P u e he hP
    exact ⟨P', e1, f1, g1, zk_sm_k e1 hP.2.2.2.2.2, x1⟩
section
variable {n : Nat × Nat} {L len m dd : Nat} {xs : Nat → Int32} {B : Nat → Nat}
/-- a reader of the reference does nothing behind a fault -/
def yPass (n : Nat × Nat) (D : Nat) (g : Nat → zk_S → Option zk_R) : Prop := ∀ (Q : zp) (n : Nat × Nat) (e q : Nat), D ≤ e → Q.1 269 4 = zi q → q < 1000 → g e (zp_M Q, n) = some (none, (zp_M Q, n))
theorem yR_seq {D : Nat} {f g f' g' F F' : Nat → zk_S → Option zk_R} {ty1 ty2 ty : List (Nat × Nat) → Prop} (h240 : len ≤ 240) (hF0 : ∀ (P P3 : zp) (e : Nat), D ≤ e → f e (zp_M P, n) = some (some (.int 0), (zp_M P3, n)) → F e (zp_M P, n) = some (some (.int 0), (zp_M P3, n))) (hF1 : ∀ (P P3 : zp) (e : Nat), D ≤ e → f e (zp_M P, n) = some (some (.int 1), (zp_M P3, n)) → F e (zp_M P, n) = g e (zp_M P3, n)) (hF' : ∀ (Q Q3 : zp) (n : Nat × Nat) (e : Nat), D ≤ e → f' e (zp_M Q, n) = some (none, (zp_M Q3, n)) → F' e (zp_M Q, n) = g' e (zp_M Q3, n)) (hf : yRx n L xs B len m dd D f f' ty1) (hg : ∀ q, m ≤ q → q ≤ len → yRx n L xs B len q dd D g g' ty2) (hp : yPass n D g') (hty : ∀ X Y, ty1 X → ty2 Y → ty (X ++ Y)) : yRx n L xs B len m dd D F F' ty := by
  obtain ⟨o1, ⟨k1, k2⟩, oC, oR⟩ := hf
  cases ho : o1.2 with
  | none =>
    refine ⟨(o1.1, none), ⟨k1, fun X hX => by cases hX⟩, fun P u e he hP => ?_, fun Q n c t e he hQ => ?_⟩
    · obtain ⟨P3, e3, F3, g3, E3, -⟩ := oC P u e he hP
      refine ⟨P3, ?_, F3, g3, E3, fun X hX => by cases hX⟩
      rw [show yob o1 = 0 by unfold yob; rw [ho]] at e3
      exact hF0 P P3 e he e3
    · obtain ⟨Q3, e3, F3, K3, i3, s3⟩ := oR Q n c t e he hQ
      unfold yqs at s3
      rw [ho] at s3
      refine ⟨Q3, ?_, F3, K3, i3, s3⟩
      rw [hF' Q Q3 n e he e3, hp Q3 n e o1.1 he s3.1 (by omega)]
  | some Y =>
    obtain ⟨k3, k4⟩ := k2 Y ho
    obtain ⟨o2, ⟨b1, b2⟩, o2C, o2R⟩ := hg o1.1 (by omega) k1
    refine ⟨(o2.1, o2.2.map (fun Z => Y ++ Z)), ⟨b1, fun X hX => ?_⟩, fun P u e he hP => ?_, fun Q n c t e he hQ => ?_⟩
    · obtain ⟨Z, hZ, rfl⟩ := Option.map_eq_some_iff.mp hX
      obtain ⟨z1, z2⟩ := b2 Z hZ
      refine ⟨?_, hty Y Z k4 z2⟩
      show (Y ++ Z).length + m ≤ o2.1
      rw [List.length_append]
      omega
    · have huq : u ≤ m := hP.2.2.2.2.1
      obtain ⟨P3, e3, F3, g3, E3, X3⟩ := oC P u e he hP
      obtain ⟨x1, x2, x3⟩ := X3 Y ho
      obtain ⟨P6, e6, F6, g6, E6, X6⟩ := o2C P3 (u + Y.length) e he ⟨yTp_F (by decide) (by decide) F3 hP.1, g3, k1, x1, by omega, E3⟩
      refine ⟨P6, ?_, yF_t F3 F6, g6, E6, fun X hX => ?_⟩
      · rw [show yob o1 = 1 by unfold yob; rw [ho]] at e3
        rw [hF1 P P3 e he e3, e6]
        cases hz : o2.2 <;> (unfold yob; rw [hz]; rfl)
      · obtain ⟨Z, hZ, rfl⟩ := Option.map_eq_some_iff.mp hX
        obtain ⟨y1, y2, y3⟩ := X6 Z hZ
        refine ⟨?_, ycs_a (ycs_k x2 y3 (Nat.le_refl _)) y2, fun j hj => ?_⟩
        · rw [y1, List.length_append, Nat.add_assoc]
        · rw [y3 j (by omega), x3 j hj]
    · have hcq : c ≤ m := hQ.2.2.2.2.2.2.2.2
      have t5 : t < 5 := hQ.2.2.2.2.2.2.1
      obtain ⟨Q3, e3, F3, K3, i3, s3⟩ := oR Q n c t e he hQ
      unfold yqs at s3
      rw [ho] at s3
      obtain ⟨a1, a2, a3, a4, a5⟩ := s3
      obtain ⟨Q6, e6, F6, K6, i6, s6⟩ := o2R Q3 n (c + Y.length) t e he ⟨yTq_F (by decide) (by decide) F3 hQ.1, a1, k1, a2, a3, (F3.1 269 14 (by decide)).trans hQ.2.2.2.2.2.1, t5, a4, by omega⟩
      refine ⟨Q6, ?_, yF_t F3 F6, yKp_t (Nat.le_add_right c Y.length) K3 K6, fun i hi => by rw [i6 i hi, i3 i hi], ?_⟩
      · rw [hF' Q Q3 n e he e3, e6]
      · unfold yqs at s6 ⊢
        cases hz : o2.2 with
        | none =>
          rw [hz] at s6
          obtain ⟨w6, a, c', dv, y1, y2, y3, y0, y4, y5⟩ := s6
          exact ⟨w6, a, c', dv, y1, y2, y3, by omega, by omega, y5⟩
        | some Z =>
          rw [hz] at s6
          obtain ⟨y1, y2, y3, y4, y5⟩ := s6
          refine ⟨y1, y2, y3, ?_, yps_a (yps_k a5 K6 (Nat.le_refl _)) y5⟩
          rw [y4, List.length_append, Nat.add_assoc]
/-- a loop: behind a sign another one, a piece behind it -/
noncomputable def ylpC (cs : Int32) (f : Nat → zk_S → Option zk_R) (l : Nat → Nat → zk_S → Option zk_R) (e k : Nat) (s : zk_S) : Option zk_R := (zk_gR s 24 2 2).bind fun b1 => (zk_rv s b1 9).bind fun _ => (zk_cI (zk_sm e m_Tape_sign [.ref b1] s)).bind fun p2 => if p2.1 = cs then (zk_gR p2.2 24 2 2).bind fun b3 => (zk_rv p2.2 b3 9).bind fun _ => (zk_cV (zk_sm e m_Tape_step [.ref b3] p2.2)).bind fun t4 => (zk_rv t4 24 2).bind fun _ => (zk_cI (f e t4)).bind fun p5 => if p5.1 = 0 then some (some (.int 0), p5.2) else (zk_rv p5.2 24 2).bind fun _ => (zk_cV (zk_sm e m_LawReader_emit [.ref 24, .int (-cs)] p5.2)).bind fun t6 => l e (k + 1) t6 else some (some (.int 1), p2.2)
noncomputable def ylpR (cs : Int32) (p : Nat) (f l : Nat → zk_S → Option zk_R) (e : Nat) (s : zk_S) : Option zk_R := (zk_gI s 269 12 4).bind fun x1 => if x1 = (-1) then (zk_rv s 269 12).bind fun _ => (zk_cI (zk_sm e m_R_look [.ref 269] s)).bind fun p2 => if p2.1 = cs then (zk_gI p2.2 269 12 3).bind fun x3 => (zk_pf p2.2 269 12 3 (.int (x3 + 1))).bind fun t4 => (zk_rv t4 269 12).bind fun _ => (zk_cV (f e t4)).bind fun t5 => (zk_rv t5 269 12).bind fun _ => (zk_cV (zk_sm e m_R_put [.ref 269, .int (zi p), .int (zi 0)] t5)).bind fun t6 => l e t6 else some (none, p2.2) else some (none, s)
set_option maxHeartbeats 4000000 in
theorem yR_loop {D kt p : Nat} {cs : Int32} {f f' : Nat → zk_S → Option zk_R} {l : Nat → Nat → zk_S → Option zk_R} {l' : Nat → zk_S → Option zk_R} (h240 : len ≤ 240) (h6 : dd ≤ 6) (hD : 2 ≤ D) (hcs : cs ≠ -1) (hp2 : yec (p, 0) = -cs) (hpt : ∀ ts : List Bool, yty1 p 0 (true :: true :: ts) = some (true :: ts)) (hG : ∀ m', m ≤ m' → m' ≤ len → yRx n L xs B len m' dd D f f' (ytyT (kt + 1))) (hl : ∀ (e k : Nat) (s : zk_S), k ≤ 240 → l e k s = ylpC cs f l e k s) (hl' : ∀ (e : Nat) (s : zk_S), l' e s = ylpR cs p f' l' e s) : ∀ (j q k : Nat), len - q = j → m ≤ q → q ≤ len → k ≤ q → ∃ o : yPr, (o.1 ≤ len ∧ ∀ X, o.2 = some X → X.length + q ≤ o.1 ∧ ytyLT kt X) ∧ (∀ (P : zp) (u e : Nat), D ≤ e → yc0 n L xs B len q u P → yc9x n L xs (l e k (zp_M P, n)) u o P) ∧ ∀ (Q : zp) (n : Nat × Nat) (c t e : Nat), D ≤ e → yq0 B len q c dd t Q → yq9 n (l' e (zp_M Q, n)) len q c dd t o Q := by
  intro j
  induction j using Nat.strongRecOn with
  | _ j ihj =>
  intro q k hj hmq hq hkq
  have sg := @ysk_ge B len q
  have sl := ysk_le (B := B) hq
  by_cases hc : yhb B len (ysk B len q) = cs
  · have hlt : ysk B len q < len := yhb_lt hc hcs
    obtain ⟨o1, ⟨k1, k2⟩, oC, oR⟩ := hG (ysk B len q + 1) (by omega) hlt
    have CC : ∀ (P : zp) (u e : Nat), D ≤ e → yc0 n L xs B len q u P → ∃ P1, yF yfP [25] P P1 ∧ yc9x n L xs (f e (zp_M P1, n)) u o1 P1 ∧ l e k (zp_M P, n) = ((zk_cI (f e (zp_M P1, n))).bind fun p5 => if p5.1 = 0 then some (some (.int 0), p5.2) else (zk_rv p5.2 24 2).bind fun _ => (zk_cV (zk_sm e m_LawReader_emit [.ref 24, .int (-cs)] p5.2)).bind fun t6 => l e (k + 1) t6) ∧ (∀ j, P1.2.1 25 j = P.2.1 25 j) ∧ yTp P1 B len ∧ u ≤ q := by
      rintro P u e he ⟨c1, c2, c3, c4, c5, c6⟩
      obtain ⟨P1, e1, g1, f1⟩ := zs_sign (d := e) (n := n) c1 c2 c3
      have T1 := yTp_F (by decide) (by decide) f1 c1
      obtain ⟨P2, hP2⟩ : ∃ P2, P2 = zp_sF P1 13 1 (zi (ysk B len q + 1)) := ⟨_, rfl⟩
      have es := zs_step (d := e) (n := n) g1
      rw [← hP2] at es
      have f12 : yF [(13, 1)] [] P1 P2 := by rw [hP2]; exact yF_f (by decide)
      have f2 := yF_t f1 f12
      have T2 := yTp_F (by decide) (by decide) f12 T1
      refine ⟨P2, yF_p1 f2, oC P2 u e (by omega) ⟨T2, by rw [hP2]; exact zp_f9, hlt, (f2.1 24 1 (by decide)).trans c4, by omega, zk_sm_k es (zk_sm_k e1 c6)⟩, ?_, fun j => by rw [f2.2.1 25 (by decide)], T2, c5⟩
      rw [hl e k _ (by omega)]
      unfold ylpC
      rw [zp_Y2, Option.bind_some, zp_Pv', Option.bind_some, e1, zs_cI, Option.bind_some, if_pos hc, zp_Y2, Option.bind_some, zp_Pv', Option.bind_some, es, zs_cV, Option.bind_some, zp_Yv, Option.bind_some]
    have RR : ∀ (Q : zp) (n : Nat × Nat) (c t e : Nat), D ≤ e → yq0 B len q c dd t Q → ∃ Q1, yF [(269, 3)] [] Q Q1 ∧ yq9 n (f' e (zp_M Q1, n)) len (ysk B len q + 1) c dd t o1 Q1 ∧ l' e (zp_M Q, n) = ((zk_cV (f' e (zp_M Q1, n))).bind fun t5 => (zk_rv t5 269 12).bind fun _ => (zk_cV (zk_sm e m_R_put [.ref 269, .int (zi p), .int (zi 0)] t5)).bind fun t6 => l' e t6) ∧ yTq Q1 B len ∧ Q1.1 269 14 = zi t ∧ t < 5 ∧ c ≤ q := by
      rintro Q n c t e he ⟨q1, q2, q3, q4, q5, q6, q7, q8, q9⟩
      obtain ⟨e', rfl⟩ : ∃ e', e = e' + 1 := ⟨e - 1, by omega⟩
      obtain ⟨Q1, e1, g1, f1⟩ := zs_Rlook (d := e') (n := n) q1 q2 (by omega)
      obtain ⟨Q2, hQ2⟩ : ∃ Q2, Q2 = zp_sF Q1 269 3 (zi (ysk B len q + 1)) := ⟨_, rfl⟩
      have f2 : yF [(269, 3)] [] Q Q2 := yF_t f1 (by rw [hQ2]; exact yF_f (by decide))
      have T2 := yTq_F (by decide) (by decide) f2 q1
      have t2 : Q2.1 269 14 = zi t := (f2.1 269 14 (by decide)).trans q6
      refine ⟨Q2, f2, oR Q2 n c t (e' + 1) (by omega) ⟨T2, by rw [hQ2]; exact zp_f9, hlt, (f2.1 269 4 (by decide)).trans q4, (f2.1 269 5 (by decide)).trans q5, t2, q7, by rw [f2.2.1 273 (by decide)]; exact q8, by omega⟩, ?_, T2, t2, q7, q9⟩
      rw [hl']
      unfold ylpR
      rw [zp_R4', Option.bind_some, q4, if_pos rfl, zp_Rv, Option.bind_some, e1, zs_cI, Option.bind_some, if_pos hc, zp_R3', Option.bind_some, g1, zi_s, zp_R3p, Option.bind_some, ← hQ2, zp_Rv, Option.bind_some]
    cases ho : o1.2 with
    | none =>
      refine ⟨(o1.1, none), ⟨k1, fun X hX => by cases hX⟩, fun P u e he hP => ?_, fun Q n c t e he hQ => ?_⟩
      · obtain ⟨P1, F1, ⟨P3, e3, F3, g3, E3, -⟩, ea, -, -, -⟩ := CC P u e he hP
        refine ⟨P3, ?_, yF_t F1 F3, g3, E3, fun X hX => by cases hX⟩
        rw [ea, e3, zs_cI, Option.bind_some, show yob o1 = 0 by unfold yob; rw [ho], if_pos rfl]
        rfl
      · obtain ⟨Q1, F1, ⟨Q3, e3, F3, K3, i3, s3⟩, ea, T1, t1, t5, hcq⟩ := RR Q n c t e he hQ
        unfold yqs at s3
        rw [ho] at s3
        obtain ⟨w3, a, c', dv, a1, a2, a3, a0, a4, a5⟩ := s3
        have t3 : Q3.1 269 14 = zi t := (F3.1 269 14 (by decide)).trans t1
        have hc5 : c' < 520 := by omega
        refine ⟨ypt Q3 t c' (zi p) (zi 0), ?_, yF_t (yF_q3 F1) (yF_t F3 ypt_F), yKp_t (Nat.le_refl c) (yKp_f F1) (yKp_t a0 K3 (ypt_K hc5)), fun i hi => by rw [ypt_i hi, i3 i hi, F1.2.1 273 (by decide)], ?_⟩
        · rw [ea, e3, zs_cV, Option.bind_some, zp_Rv, Option.bind_some, zs_Rput t3 t5 a3 hc5, zs_cV, Option.bind_some, hl']
          unfold ylpR
          rw [zp_R4', Option.bind_some, show (ypt Q3 t c' (zi p) (zi 0)).1 269 4 = zi o1.1 from w3, if_neg (zi_n1 (by omega))]
        · exact ⟨w3, a, c' + 1, dv, a1, a2, ypt_c, by omega, by omega, a5⟩
    | some Y =>
      obtain ⟨k3, k4⟩ := k2 Y ho
      obtain ⟨o2, ⟨b1, b2⟩, o2C, o2R⟩ := ihj (len - o1.1) (by omega) o1.1 (k + 1) rfl (by omega) k1 (by omega)
      refine ⟨(o2.1, o2.2.map (fun Z => Y ++ (p, 0) :: Z)), ⟨b1, fun X hX => ?_⟩, fun P u e he hP => ?_, fun Q n c t e he hQ => ?_⟩
      · obtain ⟨Z, hZ, rfl⟩ := Option.map_eq_some_iff.mp hX
        obtain ⟨z1, z2⟩ := b2 Z hZ
        refine ⟨?_, fun ts hts => ?_⟩
        · rw [List.length_append, List.length_cons]
          show _ ≤ o2.1
          omega
        · rw [yty_a, k4 (true :: ts) (by rw [List.length_cons]; omega), Option.bind_some]
          show (yty1 p 0 (true :: true :: ts)).bind (yty Z) = _
          rw [hpt, Option.bind_some, z2 ts hts]
      · obtain ⟨P1, F1, ⟨P3, e3, F3, g3, E3, X3⟩, ea, u25, T1, huq⟩ := CC P u e he hP
        obtain ⟨x1, x2, x3⟩ := X3 Y ho
        obtain ⟨e', rfl⟩ : ∃ e', e = e' + 1 := ⟨e - 1, by omega⟩
        have ee := zs_emit (d := e') (n := n) (x := -cs) x1 (by omega)
        obtain ⟨P4, hP4⟩ : ∃ P4, P4 = yem P3 (u + Y.length) (-cs) := ⟨_, rfl⟩
        rw [← hP4] at ee
        have F4 : yF yfP [25] P3 P4 := by rw [hP4]; exact yem_F
        have g4 : P4.1 13 1 = zi o1.1 := by rw [hP4, yem_m]; exact g3
        have T4 := yTp_F (by decide) (by decide) (yF_t F3 F4) T1
        have u4 : P4.1 24 1 = zi (u + Y.length + 1) := by rw [hP4]; exact yem_u
        obtain ⟨P6, e6, F6, g6, E6, X6⟩ := o2C P4 (u + Y.length + 1) (e' + 1) he ⟨T4, g4, k1, u4, by omega, zk_sm_k ee E3⟩
        refine ⟨P6, ?_, yF_t F1 (yF_t F3 (yF_t F4 F6)), g6, E6, fun X hX => ?_⟩
        · rw [ea, e3, zs_cI, Option.bind_some, show yob o1 = 1 by unfold yob; rw [ho], if_neg zi_1n, zp_Yv, Option.bind_some, ee, zs_cV, Option.bind_some, e6]
          cases hz : o2.2 <;> (unfold yob; rw [hz]; rfl)
        · obtain ⟨Z, hZ, rfl⟩ := Option.map_eq_some_iff.mp hX
          obtain ⟨y1, y2, y3⟩ := X6 Z hZ
          refine ⟨?_, ycs_a ?_ (ycs_a (X := [(p, 0)]) ?_ y2), fun j hj => ?_⟩
          · rw [y1, List.length_append, List.length_cons, show u + (Y.length + (Z.length + 1)) = u + Y.length + 1 + Z.length by omega]
          · intro i o hi
            have hl := (List.getElem?_eq_some_iff.mp hi).1
            rw [y3 _ (by omega), hP4, yem_8 (by omega)]
            exact x2 i o hi
          · refine ycs_1 ?_
            rw [y3 _ (by omega), hP4, hp2]; exact yem_9
          · rw [y3 j (by omega), hP4, yem_8 (by omega), x3 j hj, u25 j]
      · obtain ⟨Q1, F1, ⟨Q3, e3, F3, K3, i3, s3⟩, ea, T1, t1, t5, hcq⟩ := RR Q n c t e he hQ
        unfold yqs at s3
        rw [ho] at s3
        obtain ⟨a1, a2, a3, a4, a5⟩ := s3
        have t3 : Q3.1 269 14 = zi t := (F3.1 269 14 (by decide)).trans t1
        have hc5 : c + Y.length < 520 := by omega
        obtain ⟨Q4, hQ4⟩ : ∃ Q4, Q4 = ypt Q3 t (c + Y.length) (zi p) (zi 0) := ⟨_, rfl⟩
        have ep := zs_Rput (d := e) (n := n) (x := zi p) (y := zi 0) t3 t5 a4 hc5
        rw [← hQ4] at ep
        have F4 : yF yfQ ykQ Q3 Q4 := by rw [hQ4]; exact ypt_F
        have K4 : yKp t (c + Y.length) Q3 Q4 := by rw [hQ4]; exact ypt_K hc5
        have g4 : Q4.1 269 3 = zi o1.1 := by rw [hQ4]; exact a1
        have w4 : Q4.1 269 4 = -1 := by rw [hQ4]; exact a2
        have d4 : Q4.1 269 5 = zi dd := by rw [hQ4]; exact a3
        have T4 := yTq_F (by decide) (by decide) (yF_t F3 F4) T1
        obtain ⟨Q6, e6, F6, K6, i6, s6⟩ := o2R Q4 n (c + Y.length + 1) t e he ⟨T4, g4, k1, w4, d4, (F4.1 269 14 (by decide)).trans t3, t5, by rw [hQ4]; exact ypt_c, by omega⟩
        refine ⟨Q6, ?_, yF_t (yF_q3 F1) (yF_t F3 (yF_t F4 F6)), yKp_t (Nat.le_refl c) (yKp_f F1) (yKp_t (Nat.le_add_right c Y.length) K3 (yKp_t (Nat.le_succ _) K4 K6)), fun i hi => by rw [i6 i hi, hQ4, ypt_i hi, i3 i hi, F1.2.1 273 (by decide)], ?_⟩
        · rw [ea, e3, zs_cV, Option.bind_some, zp_Rv, Option.bind_some, ep, zs_cV, Option.bind_some, e6]
        · unfold yqs at s6 ⊢
          cases hz : o2.2 with
          | none =>
            rw [hz] at s6
            obtain ⟨w6, a, c', dv, y1, y2, y3, y0, y4, y5⟩ := s6
            exact ⟨w6, a, c', dv, y1, y2, y3, by omega, by omega, y5⟩
          | some Z =>
            rw [hz] at s6
            obtain ⟨y1, y2, y3, y4, y5⟩ := s6
            refine ⟨y1, y2, y3, ?_, yps_a (yps_k (yps_k a5 K4 (Nat.le_refl _)) K6 (Nat.le_succ _)) (yps_a (X := [(p, 0)]) (yps_k (c2 := c + Y.length + 1) (yps_1 (by rw [hQ4]; exact ypt_9)) K6 (Nat.le_refl _)) y5)⟩
            rw [y4, List.length_append, List.length_cons, show c + (Y.length + (Z.length + 1)) = c + Y.length + 1 + Z.length by omega]
  · refine ⟨(ysk B len q, some []), ⟨sl, fun X hX => ?_⟩, fun P u e he hP => ?_, fun Q n c t e he hQ => ?_⟩
    · cases hX
      exact ⟨by show 0 + q ≤ ysk B len q; omega, fun ts _ => rfl⟩
    · obtain ⟨c1, c2, c3, c4, c5, c6⟩ := hP
      obtain ⟨P1, e1, g1, f1⟩ := zs_sign (d := e) (n := n) c1 c2 c3
      refine ⟨P1, ?_, yF_p1 f1, g1, zk_sm_k e1 c6, fun X hX => ?_⟩
      · rw [hl e k _ (by omega)]
        unfold ylpC
        rw [zp_Y2, Option.bind_some, zp_Pv', Option.bind_some, e1, zs_cI, Option.bind_some, if_neg hc]
        rfl
      · cases hX
        exact ⟨(f1.1 24 1 (by decide)).trans c4, fun j o hj => (by cases hj), fun j _ => by rw [f1.2.1 25 (by decide)]⟩
    · obtain ⟨e', rfl⟩ : ∃ e', e = e' + 1 := ⟨e - 1, by omega⟩
      obtain ⟨q1, q2, q3, q4, q5, q6, q7, q8, q9⟩ := hQ
      obtain ⟨Q1, e1, g1, f1⟩ := zs_Rlook (d := e') (n := n) q1 q2 (by omega)
      refine ⟨Q1, ?_, yF_q3 f1, yKp_f f1, fun i _ => by rw [f1.2.1 273 (by decide)], g1, (f1.1 269 4 (by decide)).trans q4, (f1.1 269 5 (by decide)).trans q5, by rw [f1.2.1 273 (by decide)]; exact q8, fun j o hj => (by cases hj)⟩
      rw [hl']
      unfold ylpR
      rw [zp_R4', Option.bind_some, q4, if_pos rfl, zp_Rv, Option.bind_some, e1, zs_cI, Option.bind_some, if_neg hc]
end
