/-! PARSING 9: laws: comparisons, units, conditions -/
section
variable {n : Nat × Nat} {L len m dd : Nat} {xs : Nat → Int32} {B : Nat → Nat}
/-- .. behind blanks -/
theorem yRx_p {D : Nat} {f f' F F' : Nat → zk_S → Option zk_R} {ty : List (Nat × Nat) → Prop} (hm : m ≤ len) (h : yRx n L xs B len (ysk B len m) dd D f f' ty) (hF : ∀ (P P1 : zp) (e : Nat), D ≤ e → zk_sm e m_Tape_sign [.ref 13] (zp_M P, n) = some (some (.int (yhb B len (ysk B len m))), (zp_M P1, n)) → F (e + 1) (zp_M P, n) = f e (zp_M P1, n)) (hF' : ∀ (Q Q1 : zp) (n : Nat × Nat) (e : Nat), D ≤ e + 1 → zk_sm (e + 1) m_R_look [.ref 269] (zp_M Q, n) = some (some (.int (yhb B len (ysk B len m))), (zp_M Q1, n)) → F' (e + 2) (zp_M Q, n) = f' (e + 1) (zp_M Q1, n)) : yRx n L xs B len m dd (D + 2) F F' ty := by
  have sg := @ysk_ge B len m
  have sl := ysk_le (B := B) hm
  obtain ⟨o, ⟨a, b⟩, oC, oR⟩ := h
  refine ⟨o, ⟨a, fun X hX => ?_⟩, fun P u e he hP => ?_, fun Q n c t e he hQ => ?_⟩
  · obtain ⟨b1, b2⟩ := b X hX
    exact ⟨by omega, b2⟩
  · obtain ⟨e, rfl⟩ : ∃ e', e = e' + 1 := ⟨e - 1, by omega⟩
    obtain ⟨c1, c2, c3, c4, c5, c6⟩ := hP
    obtain ⟨P1, e1, g1, f1⟩ := zs_sign (d := e) (n := n) c1 c2 c3
    obtain ⟨P3, e3, F3, g3, E3, X3⟩ := oC P1 u e (by omega) ⟨yTp_F (by decide) (by decide) f1 c1, g1, sl, (f1.1 24 1 (by decide)).trans c4, by omega, zk_sm_k e1 c6⟩
    refine ⟨P3, by rw [hF P P1 e (by omega) e1]; exact e3, yF_t (yF_p1 f1) F3, g3, E3, fun X hX => ?_⟩
    obtain ⟨x1, x2, x3⟩ := X3 X hX
    exact ⟨x1, x2, fun j hj => by rw [x3 j hj, f1.2.1 25 (by decide)]⟩
  · obtain ⟨e, rfl⟩ : ∃ e', e = e' + 2 := ⟨e - 2, by omega⟩
    obtain ⟨q1, q2, q3, q4, q5, q6, q7, q8, q9⟩ := hQ
    obtain ⟨Q1, e1, g1, f1⟩ := zs_Rlook (d := e) (n := n) q1 q2 (by omega)
    obtain ⟨Q3, e3, F3, K3, i3, s3⟩ := oR Q1 n c t (e + 1) (by omega) ⟨yTq_F (by decide) (by decide) f1 q1, g1, sl, (f1.1 269 4 (by decide)).trans q4, (f1.1 269 5 (by decide)).trans q5, (f1.1 269 14 (by decide)).trans q6, q7, by rw [f1.2.1 273 (by decide)]; exact q8, by omega⟩
    refine ⟨Q3, by rw [hF' Q Q1 n e (by omega) e1]; exact e3, yF_t (yF_q3 f1) F3, yKp_t (Nat.le_refl c) (yKp_f f1) K3, fun i hi => by rw [i3 i hi, f1.2.1 273 (by decide)], ?_⟩
    unfold yqs at s3 ⊢
    cases ho : o.2 with
    | some X => rw [ho] at s3; exact s3
    | none =>
      rw [ho] at s3
      obtain ⟨w3, a, c', dv, a1, a2, a3, a0, a4, a5⟩ := s3
      exact ⟨w3, a, c', dv, a1, a2, a3, a0, by omega, a5⟩
/-- .. a step of the class deeper -/
theorem yRx_c {D : Nat} {f f' F : Nat → zk_S → Option zk_R} {ty : List (Nat × Nat) → Prop} (h : yRx n L xs B len m dd D f f' ty) (hF : ∀ (P : zp) (e : Nat), D ≤ e → F (e + 1) (zp_M P, n) = f e (zp_M P, n)) : yRx n L xs B len m dd (D + 1) F f' ty := by
  obtain ⟨o, ab, oC, oR⟩ := h
  refine ⟨o, ab, fun P u e he hP => ?_, fun Q n c t e he hQ => oR Q n c t e (by omega) hQ⟩
  obtain ⟨e, rfl⟩ : ∃ e', e = e' + 1 := ⟨e - 1, by omega⟩
  rw [hF P e (by omega)]
  exact oC P u e (by omega) hP
theorem yRx_r {D : Nat} {f f' F' : Nat → zk_S → Option zk_R} {ty : List (Nat × Nat) → Prop} (h : yRx n L xs B len m dd D f f' ty) (hF : ∀ (Q : zp) (n : Nat × Nat) (e : Nat), D ≤ e → Q.1 269 4 = -1 → F' (e + 1) (zp_M Q, n) = f' e (zp_M Q, n)) : yRx n L xs B len m dd (D + 1) f F' ty := by
  obtain ⟨o, ab, oC, oR⟩ := h
  refine ⟨o, ab, fun P u e he hP => oC P u e (by omega) hP, fun Q n c t e he hQ => ?_⟩
  obtain ⟨e, rfl⟩ : ∃ e', e = e' + 1 := ⟨e - 1, by omega⟩
  rw [hF Q n e (by omega) hQ.2.2.2.1]
  exact oR Q n c t e (by omega) hQ
theorem yRx_D {D D' : Nat} {f f' : Nat → zk_S → Option zk_R} {ty : List (Nat × Nat) → Prop} (h : yRx n L xs B len m dd D f f' ty) (hD : D ≤ D') : yRx n L xs B len m dd D' f f' ty := by
  obtain ⟨o, ab, oC, oR⟩ := h
  exact ⟨o, ab, fun P u e he hP => oC P u e (by omega) hP, fun Q n c t e he hQ => oR Q n c t e (by omega) hQ⟩
/-- comparisons -/
def ycq (c : Int32) : Bool := decide (c = 61) || (decide (c = 60) || decide (c = 62))
theorem zs_isC {d : Nat} {c : Int32} {s : zk_S} : zk_sm d m_LawReader_isComparison [.int c] s = some (some (.int (zp_b (ycq c))), s) := by
  rw [e_LawReader_isComparison]
  unfold ycq
  by_cases z : c = 61
  · rw [if_pos z, decide_eq_true z]; rfl
  · rw [if_neg z, decide_eq_false z]
    by_cases y : c = 60
    · rw [if_pos y, decide_eq_true y]; rfl
    · rw [if_neg y, decide_eq_false y]
      by_cases w : c = 62
      · rw [if_pos w, decide_eq_true w]; rfl
      · rw [if_neg w, decide_eq_false w]; rfl
theorem zs_RisSign {d : Nat} {c : Int32} {s : zk_S} : zk_sm d m_R_isSign [.int c] s = some (some (.int (zp_b (ycq c))), s) := by
  rw [e_R_isSign]
  unfold ycq
  by_cases z : c = 61
  · rw [if_pos z, decide_eq_true z]; rfl
  · rw [if_neg z, decide_eq_false z]
    by_cases y : c = 60
    · rw [if_pos y, decide_eq_true y]; rfl
    · rw [if_neg y, decide_eq_false y]
      by_cases w : c = 62
      · rw [if_pos w, decide_eq_true w]; rfl
      · rw [if_neg w, decide_eq_false w]; rfl
noncomputable def ycmC (dd : Nat) (e : Nat) (s : zk_S) : Option zk_R := (zk_gR s 24 2 2).bind fun b6 => (zk_rv s b6 9).bind fun _ => (zk_cI (zk_sm e m_Tape_sign [.ref b6] s)).bind fun p7 => (zk_cI (zk_sm e m_LawReader_isComparison [.int p7.1] p7.2)).bind fun p8 => if p8.1 = 0 then some (some (.int 0), p8.2) else (zk_gR p8.2 24 2 2).bind fun b9 => (zk_rv p8.2 b9 9).bind fun _ => (zk_cV (zk_sm e m_Tape_step [.ref b9] p8.2)).bind fun t10 => (zk_rv t10 24 2).bind fun _ => (zk_cI (zk_sm e m_LawReader_readsSum [.ref 24, .int (zi dd)] t10)).bind fun p11 => if p11.1 = 0 then some (some (.int 0), p11.2) else (zk_rv p11.2 24 2).bind fun _ => (zk_cV (zk_sm e m_LawReader_emit [.ref 24, .int (-p7.1)] p11.2)).bind fun t12 => some (some (.int 1), t12)
theorem eR_cmp {e p : Nat} {c : Int32} {Q Q1 : zp} (hw : Q.1 269 4 = -1) (e1 : zk_sm e m_R_look [.ref 269] (zp_M Q, n) = some (some (.int c), (zp_M Q1, n))) (hp : c = 61 ∧ p = 6 ∨ c = 60 ∧ p = 7 ∨ c = 62 ∧ p = 8) : zk_sm (e + 1) m_R_compare [.ref 269] (zp_M Q, n) = (zk_gI (zp_M Q1, n) 269 12 3).bind fun x5 => (zk_pf (zp_M Q1, n) 269 12 3 (.int (x5 + 1))).bind fun t6 => (zk_rv t6 269 12).bind fun _ => (zk_cV (zk_sm e m_R_sum [.ref 269] t6)).bind fun t7 => (zk_rv t7 269 12).bind fun _ => (zk_cV (zk_sm e m_R_put [.ref 269, .int (zi p), .int (zi 0)] t7)).bind fun t8 => some (none, t8) := by
  rw [e_R_compare, zp_R4', Option.bind_some, hw, if_pos rfl, zp_Rv, Option.bind_some, e1, zs_cI, Option.bind_some, zs_RisSign, zs_cI, Option.bind_some, zp_ib]
  rcases hp with ⟨rfl, rfl⟩ | ⟨rfl, rfl⟩ | ⟨rfl, rfl⟩
  · rw [show ycq 61 = true by decide, cond_true]; rfl
  · rw [show ycq 60 = true by decide, cond_true]; rfl
  · rw [show ycq 62 = true by decide, cond_true]; rfl
set_option maxHeartbeats 2000000 in
theorem yR_cmp (h240 : len ≤ 240) (hm : m ≤ len) (h6 : dd ≤ 6) (hS : ∀ m', m ≤ m' → m' ≤ len → yRd n L xs B len m' dd (3 * (6 - dd) + 8) m_LawReader_readsSum m_R_sum [.int (zi dd)] (ytyF (2 * dd + 3))) : yRx n L xs B len m dd (3 * (6 - dd) + 9) (ycmC dd) (fun e s => zk_sm e m_R_compare [.ref 269] s) (ytyLC (2 * dd + 2)) := by
  have sg := @ysk_ge B len m
  have sl := ysk_le (B := B) hm
  cases hq : ycq (yhb B len (ysk B len m)) with
  | false =>
    refine ⟨(ysk B len m, none), ⟨sl, fun X hX => by cases hX⟩, fun P u e he hP => ?_, fun Q n c t e he hQ => ?_⟩
    · obtain ⟨c1, c2, c3, c4, c5, c6⟩ := hP
      obtain ⟨P1, e1, g1, f1⟩ := zs_sign (d := e) (n := n) c1 c2 c3
      refine ⟨P1, ?_, yF_p1 f1, g1, zk_sm_k e1 c6, fun X hX => by cases hX⟩
      unfold ycmC
      rw [zp_Y2, Option.bind_some, zp_Pv', Option.bind_some, e1, zs_cI, Option.bind_some, zs_isC, zs_cI, Option.bind_some, zp_ib, hq, cond_false]
      rfl
    · obtain ⟨e, rfl⟩ : ∃ e', e = e' + 2 := ⟨e - 2, by omega⟩
      obtain ⟨q1, q2, q3, q4, q5, q6, q7, q8, q9⟩ := hQ
      obtain ⟨Q1, e1, g1, f1⟩ := zs_Rlook (d := e) (n := n) q1 q2 (by omega)
      have F2 : yF [(269, 3), (269, 4)] [] Q (zp_sF Q1 269 4 (zi (ysk B len m))) := yF_t (yF_m f1 (fun x hx => by simp only [List.mem_cons, List.not_mem_nil, or_false] at hx ⊢; exact Or.inl hx) (fun _ h => h)) (yF_f (by decide))
      refine ⟨zp_sF Q1 269 4 (zi (ysk B len m)), ?_, yF_q34 F2, yKp_f F2, fun i _ => by rw [F2.2.1 273 (by decide)], zp_f9, ysk B len m, c, _, (zp_f8 (by decide)).trans g1, rfl, by rw [F2.2.1 273 (by decide)]; exact q8, by omega, by omega, by omega⟩
      show zk_sm (e + 2) m_R_compare [.ref 269] (zp_M Q, n) = _
      rw [e_R_compare, zp_R4', Option.bind_some, q4, if_pos rfl, zp_Rv, Option.bind_some, e1, zs_cI, Option.bind_some, zs_RisSign, zs_cI, Option.bind_some, zp_ib, hq, cond_false, zp_Rv, Option.bind_some, zs_Rbad g1 ((f1.1 269 4 (by decide)).trans q4), zs_cV, Option.bind_some]
  | true =>
    obtain ⟨p, hp, hp2⟩ : ∃ p, (yhb B len (ysk B len m) = 61 ∧ p = 6 ∨ yhb B len (ysk B len m) = 60 ∧ p = 7 ∨ yhb B len (ysk B len m) = 62 ∧ p = 8) ∧ yec (p, 0) = -yhb B len (ysk B len m) := by
      unfold ycq at hq
      rw [Bool.or_eq_true, Bool.or_eq_true] at hq
      rcases hq with z | z | z
      · exact ⟨6, Or.inl ⟨of_decide_eq_true z, rfl⟩, by rw [of_decide_eq_true z]; decide⟩
      · exact ⟨7, Or.inr (Or.inl ⟨of_decide_eq_true z, rfl⟩), by rw [of_decide_eq_true z]; decide⟩
      · exact ⟨8, Or.inr (Or.inr ⟨of_decide_eq_true z, rfl⟩), by rw [of_decide_eq_true z]; decide⟩
    have hpt : ∀ ts : List Bool, yty1 p 0 (false :: false :: ts) = some (true :: ts) := by
      intro ts
      rcases hp with ⟨-, rfl⟩ | ⟨-, rfl⟩ | ⟨-, rfl⟩ <;> rfl
    have hlt : ysk B len m < len := by
      rcases hp with ⟨z, -⟩ | ⟨z, -⟩ | ⟨z, -⟩
      · exact yhb_lt z (by decide)
      · exact yhb_lt z (by decide)
      · exact yhb_lt z (by decide)
    obtain ⟨o1, ⟨k1, k2⟩, oC, oR⟩ := yRx_d (hS (ysk B len m + 1) (by omega) hlt)
    have CC : ∀ (P : zp) (u e : Nat), 3 * (6 - dd) + 9 ≤ e → yc0 n L xs B len m u P → ∃ P1, yF yfP [25] P P1 ∧ yc9x n L xs (zk_sm e m_LawReader_readsSum [.ref 24, .int (zi dd)] (zp_M P1, n)) u o1 P1 ∧ ycmC dd e (zp_M P, n) = ((zk_cI (zk_sm e m_LawReader_readsSum [.ref 24, .int (zi dd)] (zp_M P1, n))).bind fun p11 => if p11.1 = 0 then some (some (.int 0), p11.2) else (zk_rv p11.2 24 2).bind fun _ => (zk_cV (zk_sm e m_LawReader_emit [.ref 24, .int (-yhb B len (ysk B len m))] p11.2)).bind fun t12 => some (some (.int 1), t12)) ∧ (∀ j, P1.2.1 25 j = P.2.1 25 j) ∧ u ≤ m := by
      rintro P u e he ⟨c1, c2, c3, c4, c5, c6⟩
      obtain ⟨P1, e1, g1, f1⟩ := zs_sign (d := e) (n := n) c1 c2 c3
      obtain ⟨P2, hP2⟩ : ∃ P2, P2 = zp_sF P1 13 1 (zi (ysk B len m + 1)) := ⟨_, rfl⟩
      have es := zs_step (d := e) (n := n) g1
      rw [← hP2] at es
      have f2 : yF [(13, 1)] [] P P2 := yF_t f1 (by rw [hP2]; exact yF_f (by decide))
      refine ⟨P2, yF_p1 f2, oC P2 u e (by omega) ⟨yTp_F (by decide) (by decide) f2 c1, by rw [hP2]; exact zp_f9, hlt, (f2.1 24 1 (by decide)).trans c4, by omega, zk_sm_k es (zk_sm_k e1 c6)⟩, ?_, fun j => by rw [f2.2.1 25 (by decide)], c5⟩
      unfold ycmC
      rw [zp_Y2, Option.bind_some, zp_Pv', Option.bind_some, e1, zs_cI, Option.bind_some, zs_isC, zs_cI, Option.bind_some, zp_ib, hq, cond_true, zp_Y2, Option.bind_some, zp_Pv', Option.bind_some, es, zs_cV, Option.bind_some, zp_Yv, Option.bind_some]
    have RR : ∀ (Q : zp) (n : Nat × Nat) (c t e : Nat), 3 * (6 - dd) + 9 ≤ e + 2 → yq0 B len m c dd t Q → ∃ Q1, yF [(269, 3)] [] Q Q1 ∧ yq9 n (zk_sm (e + 1) m_R_sum [.ref 269] (zp_M Q1, n)) len (ysk B len m + 1) c dd t o1 Q1 ∧ zk_sm (e + 2) m_R_compare [.ref 269] (zp_M Q, n) = ((zk_cV (zk_sm (e + 1) m_R_sum [.ref 269] (zp_M Q1, n))).bind fun t7 => (zk_rv t7 269 12).bind fun _ => (zk_cV (zk_sm (e + 1) m_R_put [.ref 269, .int (zi p), .int (zi 0)] t7)).bind fun t8 => some (none, t8)) ∧ Q1.1 269 14 = zi t ∧ t < 5 ∧ c ≤ m := by
      rintro Q n c t e he ⟨q1, q2, q3, q4, q5, q6, q7, q8, q9⟩
      obtain ⟨Q1, e1, g1, f1⟩ := zs_Rlook (d := e) (n := n) q1 q2 (by omega)
      obtain ⟨Q2, hQ2⟩ : ∃ Q2, Q2 = zp_sF Q1 269 3 (zi (ysk B len m + 1)) := ⟨_, rfl⟩
      have f2 : yF [(269, 3)] [] Q Q2 := yF_t f1 (by rw [hQ2]; exact yF_f (by decide))
      have t2 : Q2.1 269 14 = zi t := (f2.1 269 14 (by decide)).trans q6
      refine ⟨Q2, f2, oR Q2 n c t (e + 1) (by omega) ⟨yTq_F (by decide) (by decide) f2 q1, by rw [hQ2]; exact zp_f9, hlt, (f2.1 269 4 (by decide)).trans q4, (f2.1 269 5 (by decide)).trans q5, t2, q7, by rw [f2.2.1 273 (by decide)]; exact q8, by omega⟩, ?_, t2, q7, q9⟩
      rw [eR_cmp q4 e1 hp, zp_R3', Option.bind_some, g1, zi_s, zp_R3p, Option.bind_some, ← hQ2, zp_Rv, Option.bind_some]
    cases ho : o1.2 with
    | none =>
      refine ⟨(o1.1, none), ⟨k1, fun X hX => by cases hX⟩, fun P u e he hP => ?_, fun Q n c t e he hQ => ?_⟩
      · obtain ⟨P1, F1, ⟨P3, e3, F3, g3, E3, -⟩, ea, -, -⟩ := CC P u e he hP
        refine ⟨P3, ?_, yF_t F1 F3, g3, E3, fun X hX => by cases hX⟩
        rw [ea, e3, zs_cI, Option.bind_some, show yob o1 = 0 by unfold yob; rw [ho], if_pos rfl]
        rfl
      · obtain ⟨e, rfl⟩ : ∃ e', e = e' + 2 := ⟨e - 2, by omega⟩
        obtain ⟨Q1, F1, ⟨Q3, e3, F3, K3, i3, s3⟩, ea, t1, t5, hcq⟩ := RR Q n c t e he hQ
        unfold yqs at s3
        rw [ho] at s3
        obtain ⟨w3, a, c', dv, a1, a2, a3, a0, a4, a5⟩ := s3
        have t3 : Q3.1 269 14 = zi t := (F3.1 269 14 (by decide)).trans t1
        have hc5 : c' < 520 := by omega
        refine ⟨ypt Q3 t c' (zi p) (zi 0), ?_, yF_t (yF_q3 F1) (yF_t F3 ypt_F), yKp_t (Nat.le_refl c) (yKp_f F1) (yKp_t a0 K3 (ypt_K hc5)), fun i hi => by rw [ypt_i hi, i3 i hi, F1.2.1 273 (by decide)], w3, a, c' + 1, dv, a1, a2, ypt_c, by omega, by omega, a5⟩
        show zk_sm (e + 2) m_R_compare [.ref 269] (zp_M Q, n) = _
        rw [ea, e3, zs_cV, Option.bind_some, zp_Rv, Option.bind_some, zs_Rput t3 t5 a3 hc5, zs_cV, Option.bind_some]
    | some Y =>
      obtain ⟨k3, k4⟩ := k2 Y ho
      refine ⟨(o1.1, some (Y ++ [(p, 0)])), ⟨k1, fun X hX => ?_⟩, fun P u e he hP => ?_, fun Q n c t e he hQ => ?_⟩
      · cases hX
        refine ⟨?_, fun ts hts => ?_⟩
        · rw [List.length_append]
          show Y.length + 1 + m ≤ o1.1
          omega
        · rw [yty_a, k4 (false :: ts) (by rw [List.length_cons]; omega), Option.bind_some]
          show (yty1 p 0 (false :: false :: ts)).bind (yty []) = _
          rw [hpt]; rfl
      · obtain ⟨P1, F1, ⟨P3, e3, F3, g3, E3, X3⟩, ea, u25, huq⟩ := CC P u e he hP
        obtain ⟨x1, x2, x3⟩ := X3 Y ho
        obtain ⟨e', rfl⟩ : ∃ e', e = e' + 1 := ⟨e - 1, by omega⟩
        have ee := zs_emit (d := e') (n := n) (x := -yhb B len (ysk B len m)) x1 (by omega)
        refine ⟨yem P3 (u + Y.length) (-yhb B len (ysk B len m)), ?_, yF_t F1 (yF_t F3 yem_F), by rw [yem_m]; exact g3, zk_sm_k ee E3, fun X hX => ?_⟩
        · rw [ea, e3, zs_cI, Option.bind_some, show yob o1 = 1 by unfold yob; rw [ho], if_neg zi_1n, zp_Yv, Option.bind_some, ee, zs_cV, Option.bind_some]
          rfl
        · cases hX
          refine ⟨by rw [yem_u, List.length_append]; rfl, ycs_a ?_ (ycs_1 (by rw [hp2]; exact yem_9)), fun j hj => by rw [yem_8 (by omega), x3 j hj, u25 j]⟩
          intro i o hi
          have hl := (List.getElem?_eq_some_iff.mp hi).1
          rw [yem_8 (by omega)]
          exact x2 i o hi
      · obtain ⟨e, rfl⟩ : ∃ e', e = e' + 2 := ⟨e - 2, by omega⟩
        obtain ⟨Q1, F1, ⟨Q3, e3, F3, K3, i3, s3⟩, ea, t1, t5, hcq⟩ := RR Q n c t e he hQ
        unfold yqs at s3
        rw [ho] at s3
        obtain ⟨a1, a2, a3, a4, a5⟩ := s3
        have t3 : Q3.1 269 14 = zi t := (F3.1 269 14 (by decide)).trans t1
        have hc5 : c + Y.length < 520 := by omega
        refine ⟨ypt Q3 t (c + Y.length) (zi p) (zi 0), ?_, yF_t (yF_q3 F1) (yF_t F3 ypt_F), yKp_t (Nat.le_refl c) (yKp_f F1) (yKp_t (Nat.le_add_right c Y.length) K3 (ypt_K hc5)), fun i hi => by rw [ypt_i hi, i3 i hi, F1.2.1 273 (by decide)], a1, a2, a3, by rw [ypt_c, List.length_append]; rfl, yps_a (yps_k a5 (ypt_K hc5) (Nat.le_refl _)) (yps_1 ypt_9)⟩
        show zk_sm (e + 2) m_R_compare [.ref 269] (zp_M Q, n) = _
        rw [ea, e3, zs_cV, Option.bind_some, zp_Rv, Option.bind_some, zs_Rput t3 t5 a4 hc5, zs_cV, Option.bind_some]
/-- a unit that begins with a sum -/
noncomputable def ycmR (e : Nat) (t : zk_S) : Option zk_R := (zk_gI t 269 12 4).bind fun x => if x = (-1) then (zk_rv t 269 12).bind fun _ => (zk_cV (zk_sm e m_R_compare [.ref 269] t)).bind fun t14 => some (none, t14) else some (none, t)
theorem yR_sumcmp (h240 : len ≤ 240) (hm : m ≤ len) (h6 : dd ≤ 6) (hS : ∀ m', m ≤ m' → m' ≤ len → yRd n L xs B len m' dd (3 * (6 - dd) + 8) m_LawReader_readsSum m_R_sum [.int (zi dd)] (ytyF (2 * dd + 3))) : yRx n L xs B len m dd (3 * (6 - dd) + 9) (fun e s => (zk_cI (zk_sm e m_LawReader_readsSum [.ref 24, .int (zi dd)] s)).bind fun p5 => if p5.1 = 0 then some (some (.int 0), p5.2) else ycmC dd e p5.2) (fun e s => (zk_cV (zk_sm e m_R_sum [.ref 269] s)).bind fun t => ycmR e t) (ytyT (2 * dd + 2)) := by
  refine yR_seq (D := 3 * (6 - dd) + 9) (f := fun e s => zk_sm e m_LawReader_readsSum [.ref 24, .int (zi dd)] s) (g := ycmC dd) (f' := fun e s => zk_sm e m_R_sum [.ref 269] s) (g' := ycmR) (ty1 := ytyF (2 * dd + 3)) (ty2 := ytyLC (2 * dd + 2)) h240 (fun P P3 e _ he => ?_) (fun P P3 e _ he => ?_) (fun Q Q3 n e _ he => ?_) (yRx_D (yRx_d (hS m (Nat.le_refl m) hm)) (Nat.le_succ _)) (fun q h1 h2 => ?_) (fun Q n e q _ hw hq => ?_) (fun X Y h1 h2 ts hts => ?_)
  · show ((zk_cI (zk_sm e m_LawReader_readsSum [.ref 24, .int (zi dd)] (zp_M P, n))).bind fun p5 => if p5.1 = 0 then some (some (Value.int 0), p5.2) else ycmC dd e p5.2) = _
    rw [show zk_sm e m_LawReader_readsSum [.ref 24, .int (zi dd)] (zp_M P, n) = _ from he, zs_cI, Option.bind_some, if_pos rfl]
  · show ((zk_cI (zk_sm e m_LawReader_readsSum [.ref 24, .int (zi dd)] (zp_M P, n))).bind fun p5 => if p5.1 = 0 then some (some (Value.int 0), p5.2) else ycmC dd e p5.2) = _
    rw [show zk_sm e m_LawReader_readsSum [.ref 24, .int (zi dd)] (zp_M P, n) = _ from he, zs_cI, Option.bind_some, if_neg zi_1n]
  · show ((zk_cV (zk_sm e m_R_sum [.ref 269] (zp_M Q, n))).bind fun t => ycmR e t) = _
    rw [show zk_sm e m_R_sum [.ref 269] (zp_M Q, n) = _ from he, zs_cV, Option.bind_some]
  · obtain ⟨o, ab, oC, oR⟩ := yR_cmp (n := n) (L := L) (xs := xs) (B := B) (m := q) h240 h2 h6 (fun m' h3 h4 => hS m' (by omega) h4)
    refine ⟨o, ab, oC, fun Q n c t e he hQ => ?_⟩
    obtain ⟨Q3, e3, r3⟩ := oR Q n c t e he hQ
    refine ⟨Q3, ?_, r3⟩
    unfold ycmR
    rw [zp_R4', Option.bind_some, hQ.2.2.2.1, if_pos rfl, zp_Rv, Option.bind_some, show zk_sm e m_R_compare [.ref 269] (zp_M Q, n) = _ from e3, zs_cV, Option.bind_some]
  · unfold ycmR
    rw [zp_R4', Option.bind_some, hw, if_neg (zi_n1 (by omega))]
  · rw [yty_a, h1 ts (by omega), Option.bind_some, h2 ts hts]
end
