/-! PARSING 12: laws: what stands behind a condition -/
abbrev ykC : List Nat := [271, 272, 273, 274, 275, 276, 277]
def yKc (t q0 c : Nat) (Q Q' : zp) : Prop := yKp t c Q Q' ∧ (∀ i, i ≠ t → Q'.2.1 274 i = Q.2.1 274 i) ∧ ∀ i, i ≠ 140 * t + q0 → Q'.2.1 275 i = Q.2.1 275 i ∧ Q'.2.1 276 i = Q.2.1 276 i ∧ Q'.2.1 277 i = Q.2.1 277 i
theorem yKc_t {t q0 c c' : Nat} {Q Q' Q'' : zp} (hc : c ≤ c') (h : yKc t q0 c Q Q') (h' : yKc t q0 c' Q' Q'') : yKc t q0 c Q Q'' := ⟨yKp_t hc h.1 h'.1, fun i hi => (h'.2.1 i hi).trans (h.2.1 i hi), fun i hi => ⟨(h'.2.2 i hi).1.trans (h.2.2 i hi).1, (h'.2.2 i hi).2.1.trans (h.2.2 i hi).2.1, (h'.2.2 i hi).2.2.trans (h.2.2 i hi).2.2⟩⟩
theorem yKc_q {t q0 c : Nat} {Q Q' : zp} {fs : List (Nat × Nat)} (f : yF fs ykQ Q Q') (k : yKp t c Q Q') : yKc t q0 c Q Q' := ⟨k, fun i _ => by rw [f.2.1 274 (by decide)], fun i _ => ⟨by rw [f.2.1 275 (by decide)], by rw [f.2.1 276 (by decide)], by rw [f.2.1 277 (by decide)]⟩⟩
theorem yKc_0 {t q0 c : Nat} {Q Q' : zp} {fs : List (Nat × Nat)} (f : yF fs [] Q Q') : yKc t q0 c Q Q' := yKc_q (yF_m f (fun _ h => h) (fun _ h => by cases h)) (yKp_f f)
theorem yF_C {P P' : zp} (f : yF yfQ ykQ P P') : yF yfQ ykC P P' := yF_m f (fun _ h => h) (fun k hk => by simp only [List.mem_cons, List.not_mem_nil, or_false] at hk ⊢; omega)
section
variable {P Q : zp} {n : Nat × Nat} {L len m c t q0 : Nat} {xs : Nat → Int32} {B : Nat → Nat}
theorem zp_R9' : zk_gR (zp_M P, n) 269 12 9 = some 274 := zp_gR (by decide +kernel)
theorem zp_R10' : zk_gR (zp_M P, n) 269 12 10 = some 275 := zp_gR (by decide +kernel)
theorem zp_R11' : zk_gR (zp_M P, n) 269 12 11 = some 276 := zp_gR (by decide +kernel)
theorem zp_R12' : zk_gR (zp_M P, n) 269 12 12 = some 277 := zp_gR (by decide +kernel)
theorem yKc_5 {x : Int32} : yKc t q0 c Q (zp_sA Q 275 (140 * t + q0) x) := ⟨fun j _ => ⟨by rw [zp_a7 (by decide)], by rw [zp_a7 (by decide)]⟩, fun i _ => by rw [zp_a7 (by decide)], fun i hi => ⟨zp_a8 hi, by rw [zp_a7 (by decide)], by rw [zp_a7 (by decide)]⟩⟩
theorem yKc_6 {x : Int32} : yKc t q0 c Q (zp_sA Q 276 (140 * t + q0) x) := ⟨fun j _ => ⟨by rw [zp_a7 (by decide)], by rw [zp_a7 (by decide)]⟩, fun i _ => by rw [zp_a7 (by decide)], fun i hi => ⟨by rw [zp_a7 (by decide)], zp_a8 hi, by rw [zp_a7 (by decide)]⟩⟩
theorem yKc_7 {x : Int32} : yKc t q0 c Q (zp_sA Q 277 (140 * t + q0) x) := ⟨fun j _ => ⟨by rw [zp_a7 (by decide)], by rw [zp_a7 (by decide)]⟩, fun i _ => by rw [zp_a7 (by decide)], fun i hi => ⟨by rw [zp_a7 (by decide)], by rw [zp_a7 (by decide)], zp_a8 hi⟩⟩
theorem yKc_4 {x : Int32} : yKc t q0 c Q (zp_sA Q 274 t x) := ⟨fun j _ => ⟨by rw [zp_a7 (by decide)], by rw [zp_a7 (by decide)]⟩, fun i hi => zp_a8 hi, fun i hi => ⟨by rw [zp_a7 (by decide)], by rw [zp_a7 (by decide)], by rw [zp_a7 (by decide)]⟩⟩
/-- a clause's end by the reference -/
def ycE (K : Int32) (s : zk_S) : Option zk_R := (zk_gR s 269 12 12).bind fun b22 => (zk_gR s 269 12 8).bind fun b23 => (zk_gI s 269 12 14).bind fun x24 => (zk_ldI s b23 x24).bind fun x25 => (zk_stI s b22 K x25).bind fun t26 => (zk_gR t26 269 12 9).bind fun b27 => (zk_gI t26 269 12 14).bind fun x28 => (zk_ldI t26 b27 x28).bind fun x29 => (zk_stI t26 b27 x28 (x29 + 1)).bind fun t30 => some (none, t30)
theorem zs_cE (ht : Q.1 269 14 = zi t) (h5 : t < 5) (hc : Q.2.1 273 t = zi c) (hq : Q.2.1 274 t = zi q0) (hq0 : q0 < 140) : ycE (zi (140 * t + q0)) (zp_M Q, n) = some (none, (zp_M (zp_sA (zp_sA Q 277 (140 * t + q0) (zi c)) 274 t (zi (q0 + 1))), n)) := by
  unfold ycE
  rw [zp_R12', Option.bind_some, zp_R8', Option.bind_some, zp_R14', Option.bind_some, ht, zp_ldi zp_a273 h5 (by decide), Option.bind_some, hc, zp_sti zp_a277 (show 140 * t + q0 < 700 by omega) (by decide), Option.bind_some, zp_R9', Option.bind_some, zp_R14', Option.bind_some, show (zp_sA Q 277 (140 * t + q0) (zi c)).1 269 14 = zi t from ht, zp_ldi zp_a274 h5 (by decide), Option.bind_some, zp_a7 (by decide), hq, zi_s, zp_sti zp_a274 h5 (by decide), Option.bind_some]
/-- .. and what goes ahead of it behind a condition -/
noncomputable def ygR (e : Nat) (K : Int32) (s : zk_S) : Option zk_R := (zk_gR s 269 12 11).bind fun b8 => (zk_gR s 269 12 10).bind fun b9 => (zk_ldI s b9 K).bind fun x10 => (zk_stI s b8 K x10).bind fun t11 => (zk_gI t11 269 12 4).bind fun x12 => if x12 = (-1) then (zk_rv t11 269 12).bind fun _ => (zk_cI (zk_sm e m_R_look [.ref 269] t11)).bind fun p13 => if p13.1 = 63 then (zk_gI p13.2 269 12 3).bind fun x14 => (zk_pf p13.2 269 12 3 (.int (x14 + 1))).bind fun t15 => (zk_gR t15 269 12 11).bind fun b16 => (zk_gR t15 269 12 8).bind fun b17 => (zk_gI t15 269 12 14).bind fun x18 => (zk_ldI t15 b17 x18).bind fun x19 => (zk_stI t15 b16 K x19).bind fun t20 => (zk_rv t20 269 12).bind fun _ => (zk_cV (zk_sm e m_R_sum [.ref 269] t20)).bind fun t21 => ycE K t21 else (zk_rv p13.2 269 12).bind fun _ => (zk_cV (zk_sm e m_R_bad [.ref 269] p13.2)).bind fun t31 => some (none, t31) else ycE K t11
/-- the reference's clause behind it -/
def yqc (t c q0 : Nat) (o : Nat × Option (List (Nat × Nat) × List (Nat × Nat))) (Q' : zp) : Prop := match o.2 with
  | some (T, S) => Q'.1 269 3 = zi o.1 ∧ Q'.1 269 4 = -1 ∧ Q'.1 269 5 = zi 0 ∧ Q'.1 269 14 = zi t ∧ Q'.2.1 273 t = zi (c + T.length + S.length) ∧ Q'.2.1 274 t = zi (q0 + 1) ∧ Q'.2.1 275 (140 * t + q0) = zi c ∧ Q'.2.1 276 (140 * t + q0) = zi (c + T.length) ∧ Q'.2.1 277 (140 * t + q0) = zi (c + T.length + S.length) ∧ yps Q' t (c + T.length) S
  | none => Q'.1 269 4 = zi o.1
set_option maxHeartbeats 2000000 in
theorem yR_guard (hB : ∀ i, i < len → 1 ≤ B i ∧ B i < 256) (h240 : len ≤ 240) (hm : m ≤ len) : ∃ oG : yPr, (oG.1 ≤ len ∧ ∀ S, oG.2 = some S → S.length + m + 1 ≤ oG.1 ∧ ytyF 3 S) ∧
    (∀ (P : zp) (u e : Nat), 30 ≤ e → yTp P B len → P.1 13 1 = zi m → P.1 24 1 = zi u → u + 2 ≤ m → zk_kE L xs (zp_M P, n) → ∃ P', zk_sm e m_LawReader_readsGuarded [.ref 24] (zp_M P, n) = some (some (.int (yob oG)), (zp_M P', n)) ∧ yF yfP [25] P P' ∧ P'.1 13 1 = zi oG.1 ∧ zk_kE L xs (zp_M P', n) ∧ ∀ S, oG.2 = some S → P'.1 24 1 = zi (u + S.length + 3) ∧ P'.2.1 25 u = -63 ∧ P'.2.1 25 (u + 1) = zi (u + S.length + 3) ∧ ycs P' (u + 2) S ∧ P'.2.1 25 (u + 2 + S.length) = -59 ∧ ∀ j, j < u → P'.2.1 25 j = P.2.1 25 j) ∧
    ∀ (Q : zp) (n : Nat × Nat) (c T t q0 e : Nat), 30 ≤ e → yq0 B len m (c + T) 0 t Q → Q.2.1 275 (140 * t + q0) = zi c → Q.2.1 274 t = zi q0 → q0 < 140 → ∃ Q', ygR e (zi (140 * t + q0)) (zp_M Q, n) = some (none, (zp_M Q', n)) ∧ yF yfQ ykC Q Q' ∧ yKc t q0 (c + T) Q Q' ∧ ∀ X : List (Nat × Nat), X.length = T → yqc t c q0 (oG.1, oG.2.map (fun S => (X, S))) Q' := by
  have sg := @ysk_ge B len m
  have sl := ysk_le (B := B) hm
  -- the reference's start
  have RR : ∀ (Q : zp) (n : Nat × Nat) (c T t q0 e : Nat), 30 ≤ e → yq0 B len m (c + T) 0 t Q → Q.2.1 275 (140 * t + q0) = zi c → Q.2.1 274 t = zi q0 → q0 < 140 → ∃ Q1, zk_sm e m_R_look [.ref 269] (zp_M (zp_sA Q 276 (140 * t + q0) (zi c)), n) = some (some (.int (yhb B len (ysk B len m))), (zp_M Q1, n)) ∧ Q1.1 269 3 = zi (ysk B len m) ∧ yF yfQ ykC Q Q1 ∧ yKc t q0 (c + T) Q Q1 ∧ Q1.1 269 4 = -1 ∧ Q1.1 269 5 = zi 0 ∧ Q1.1 269 14 = zi t ∧ t < 5 ∧ Q1.2.1 273 t = zi (c + T) ∧ c + T ≤ m ∧ yTq Q1 B len ∧ Q1.2.1 274 t = zi q0 ∧ Q1.2.1 275 (140 * t + q0) = zi c ∧ ygR e (zi (140 * t + q0)) (zp_M Q, n) = (if yhb B len (ysk B len m) = 63 then (zk_gI (zp_M Q1, n) 269 12 3).bind fun x14 => (zk_pf (zp_M Q1, n) 269 12 3 (.int (x14 + 1))).bind fun t15 => (zk_gR t15 269 12 11).bind fun b16 => (zk_gR t15 269 12 8).bind fun b17 => (zk_gI t15 269 12 14).bind fun x18 => (zk_ldI t15 b17 x18).bind fun x19 => (zk_stI t15 b16 (zi (140 * t + q0)) x19).bind fun t20 => (zk_rv t20 269 12).bind fun _ => (zk_cV (zk_sm e m_R_sum [.ref 269] t20)).bind fun t21 => ycE (zi (140 * t + q0)) t21 else (zk_rv (zp_M Q1, n) 269 12).bind fun _ => (zk_cV (zk_sm e m_R_bad [.ref 269] (zp_M Q1, n))).bind fun t31 => some (none, t31)) := by
    rintro Q n c T t q0 e he ⟨q1, q2, q3, q4, q5, q6, q7, q8, q9⟩ h275 h274 hq0
    obtain ⟨e', rfl⟩ : ∃ e', e = e' + 1 := ⟨e - 1, by omega⟩
    have f0 : yF yfQ ykC Q (zp_sA Q 276 (140 * t + q0) (zi c)) := yF_A (by decide)
    obtain ⟨Q1, e1, g1, f1⟩ := zs_Rlook (Q := zp_sA Q 276 (140 * t + q0) (zi c)) (d := e') (n := n) (yTq_F (by decide) (by decide) f0 q1) q2 (by omega)
    have F1 := yF_t f0 (yF_C (yF_q3 f1))
    refine ⟨Q1, e1, g1, F1, yKc_t (Nat.le_refl _) yKc_6 (yKc_0 f1), (f1.1 269 4 (by decide)).trans q4, (f1.1 269 5 (by decide)).trans q5, (f1.1 269 14 (by decide)).trans q6, q7, ?_, q9, yTq_F (by decide) (by decide) F1 q1, ?_, ?_, ?_⟩
    · rw [f1.2.1 273 (by decide), zp_a7 (by decide)]; exact q8
    · rw [f1.2.1 274 (by decide), zp_a7 (by decide)]; exact h274
    · rw [f1.2.1 275 (by decide), zp_a7 (by decide)]; exact h275
    · unfold ygR
      rw [zp_R11', Option.bind_some, zp_R10', Option.bind_some, zp_ldi zp_a275 (show 140 * t + q0 < 700 by omega) (by decide), Option.bind_some, h275, zp_sti zp_a276 (show 140 * t + q0 < 700 by omega) (by decide), Option.bind_some, zp_R4', Option.bind_some, show (zp_sA Q 276 (140 * t + q0) (zi c)).1 269 4 = -1 from q4, if_pos rfl, zp_Rv, Option.bind_some, e1, zs_cI, Option.bind_some]
  by_cases h63 : yhb B len (ysk B len m) = 63
  · have hlt : ysk B len m < len := yhb_lt h63 (by decide)
    obtain ⟨o1, ⟨k1, k2⟩, oC, oR⟩ := yRx_d (yR_sums (n := n) (L := L) (xs := xs) hB h240 (len + 1) (ysk B len m + 1) 0 (by omega) hlt (by decide))
    refine ⟨o1, ⟨k1, fun S hS => ?_⟩, fun P u e he hT hmk hu hum hE => ?_, fun Q n c T t q0 e he hQ h275 h274 hq0 => ?_⟩
    · obtain ⟨b1, b2⟩ := k2 S hS
      exact ⟨by omega, b2⟩
    · obtain ⟨e, rfl⟩ : ∃ e', e = e' + 2 := ⟨e - 2, by omega⟩
      obtain ⟨P1, e1, g1, f1⟩ := zs_takes (d := e) (n := n) (c := 63) hT hmk hm
      rw [decide_eq_true h63] at e1
      rw [if_pos h63] at g1
      have u1 : P1.1 24 1 = zi u := (f1.1 24 1 (by decide)).trans hu
      have ea := zs_emit (d := e) (n := n) (x := -63) u1 (by omega)
      obtain ⟨P2, hP2⟩ : ∃ P2, P2 = yem P1 u (-63) := ⟨_, rfl⟩
      rw [← hP2] at ea
      have u2 : P2.1 24 1 = zi (u + 1) := by rw [hP2]; exact yem_u
      have eb := zs_emit (d := e) (n := n) (x := 0) u2 (by omega)
      obtain ⟨P3, hP3⟩ : ∃ P3, P3 = yem P2 (u + 1) 0 := ⟨_, rfl⟩
      rw [← hP3] at eb
      have F3 : yF yfP [25] P P3 := yF_t (yF_p1 f1) (yF_t (by rw [hP2]; exact yem_F : yF yfP [25] P1 P2) (by rw [hP3]; exact yem_F))
      have E3 := zk_sm_k eb (zk_sm_k ea (zk_sm_k e1 hE))
      have T3 := yTp_F (by decide) (by decide) F3 hT
      have g3 : P3.1 13 1 = zi (ysk B len m + 1) := by rw [hP3, yem_m, hP2, yem_m]; exact g1
      have u3 : P3.1 24 1 = zi (u + 1 + 1) := by rw [hP3]; exact yem_u
      obtain ⟨P4, e4, F4, g4, E4, X4⟩ := oC P3 (u + 1 + 1) (e + 1) (by omega) ⟨T3, g3, hlt, u3, by omega, E3⟩
      have hs := e_LawReader_readsGuarded (e + 1) 24 (zp_M P, n)
      rw [zp_Y2, Option.bind_some, zp_Pv', Option.bind_some, e1, zs_cI, Option.bind_some, zp_ib, cond_true, zp_Yv, Option.bind_some, ea, zs_cV, Option.bind_some, zp_Y1, Option.bind_some, u2, zp_Yv, Option.bind_some, eb, zs_cV, Option.bind_some, zp_Yv, Option.bind_some, show zk_sm (e + 1) m_LawReader_readsSum [.ref 24, .int 0] (zp_M P3, n) = _ from e4, zs_cI, Option.bind_some] at hs
      cases ho : o1.2 with
      | none =>
        refine ⟨P4, ?_, yF_t F3 F4, g4, E4, fun S hS => by cases hS⟩
        rw [hs, show yob o1 = 0 by unfold yob; rw [ho], if_pos rfl]
      | some S =>
        obtain ⟨b1, b2⟩ := k2 S ho
        obtain ⟨x1, x2, x3⟩ := X4 S ho
        have ec := zs_emit (d := e) (n := n) (x := -59) x1 (by omega)
        obtain ⟨P5, hP5⟩ : ∃ P5, P5 = yem P4 (u + 1 + 1 + S.length) (-59) := ⟨_, rfl⟩
        rw [← hP5] at ec
        have u5 : P5.1 24 1 = zi (u + 1 + 1 + S.length + 1) := by rw [hP5]; exact yem_u
        have F5 : yF yfP [25] P4 P5 := by rw [hP5]; exact yem_F
        have ed : zk_sm (e + 1) m_SaddlerKnows_put [.ref 25, .int (zi (u + 1)), .int (zi (u + 1 + 1 + S.length + 1))] (zp_M P5, n) = some (none, (zp_M (zp_sA P5 25 (u + 1) (zi (u + 1 + 1 + S.length + 1))), n)) := by
          rw [zs_put zp_a25 (by decide), zp_pi (show u + 1 < 240 by omega) (by decide)]
        refine ⟨zp_sA P5 25 (u + 1) (zi (u + 1 + 1 + S.length + 1)), ?_, yF_t F3 (yF_t F4 (yF_t F5 (yF_A (by decide)))), ?_, zk_sm_k ed (zk_sm_k ec E4), fun S' hS' => ?_⟩
        · rw [hs, show yob o1 = 1 by unfold yob; rw [ho], if_neg zi_1n, zp_Yv, Option.bind_some, ec, zs_cV, Option.bind_some, zp_Y0, Option.bind_some, zp_Y1, Option.bind_some, u5, ed, zs_cV, Option.bind_some]
        · show P5.1 13 1 = zi o1.1
          rw [hP5, yem_m]; exact g4
        · cases hS'
          have eu : u + 1 + 1 + S.length + 1 = u + S.length + 3 := by omega
          have k5 : ∀ j, j < u + 1 + 1 → P5.2.1 25 j = P3.2.1 25 j := fun j hj => by rw [hP5, yem_8 (by omega), x3 j hj]
          refine ⟨by rw [← eu]; exact u5, ?_, by rw [zp_a9, eu], fun j o hj => ?_, ?_, fun j hj => ?_⟩
          · rw [zp_a8 (by omega), k5 u (by omega), hP3, yem_8 (by omega), hP2]; exact yem_9
          · have hl := (List.getElem?_eq_some_iff.mp hj).1
            rw [zp_a8 (by omega), hP5, yem_8 (by omega)]
            exact x2 j o hj
          · rw [zp_a8 (by omega), hP5]; exact yem_9
          · rw [zp_a8 (by omega), k5 j (by omega), hP3, yem_8 (by omega), hP2, yem_8 (by omega), f1.2.1 25 (by decide)]
    · obtain ⟨Q1, e1, g1, F1, K1, w1, d1, t1, t5, c1, hcm, T1, h274', h275', ea⟩ := RR Q n c T t q0 e he hQ h275 h274 hq0
      obtain ⟨Q2, hQ2⟩ : ∃ Q2, Q2 = zp_sF Q1 269 3 (zi (ysk B len m + 1)) := ⟨_, rfl⟩
      have f12 : yF [(269, 3)] [] Q1 Q2 := by rw [hQ2]; exact yF_f (by decide)
      have c2 : Q2.2.1 273 t = zi (c + T) := by rw [f12.2.1 273 (by decide)]; exact c1
      have t2 : Q2.1 269 14 = zi t := (f12.1 269 14 (by decide)).trans t1
      obtain ⟨Q3, hQ3⟩ : ∃ Q3, Q3 = zp_sA Q2 276 (140 * t + q0) (zi (c + T)) := ⟨_, rfl⟩
      have f23 : yF yfQ ykC Q2 Q3 := by rw [hQ3]; exact yF_A (by decide)
      have F3 := yF_t F1 (yF_t (yF_C (yF_q3 f12)) f23)
      have K3 : yKc t q0 (c + T) Q Q3 := yKc_t (Nat.le_refl _) K1 (yKc_t (Nat.le_refl _) (yKc_0 f12) (by rw [hQ3]; exact yKc_6))
      have t3 : Q3.1 269 14 = zi t := by rw [hQ3]; exact t2
      obtain ⟨Q4, e4, F4, K4, i4, s4⟩ := oR Q3 n (c + T) t e (by omega) ⟨yTq_F (by decide) (by decide) (yF_t (yF_C (yF_q3 f12)) f23) T1, by rw [hQ3, hQ2]; exact (zp_f9 : (zp_sF Q1 269 3 (zi (ysk B len m + 1))).1 269 3 = zi (ysk B len m + 1)), hlt, by rw [hQ3]; exact (f12.1 269 4 (by decide)).trans w1, by rw [hQ3]; exact (f12.1 269 5 (by decide)).trans d1, t3, t5, by rw [hQ3, zp_a7 (by decide)]; exact c2, by omega⟩
      have t4 : Q4.1 269 14 = zi t := (F4.1 269 14 (by decide)).trans t3
      have h4 : Q4.2.1 274 t = zi q0 := by rw [F4.2.1 274 (by decide), hQ3, zp_a7 (by decide), f12.2.1 274 (by decide)]; exact h274'
      have h5 : Q4.2.1 275 (140 * t + q0) = zi c := by rw [F4.2.1 275 (by decide), hQ3, zp_a7 (by decide), f12.2.1 275 (by decide)]; exact h275'
      have h6 : Q4.2.1 276 (140 * t + q0) = zi (c + T) := by rw [F4.2.1 276 (by decide), hQ3]; exact zp_a9
      have hs : ygR e (zi (140 * t + q0)) (zp_M Q, n) = ycE (zi (140 * t + q0)) (zp_M Q4, n) := by
        rw [ea, if_pos h63, zp_R3', Option.bind_some, g1, zi_s, zp_R3p, Option.bind_some, ← hQ2, zp_R11', Option.bind_some, zp_R8', Option.bind_some, zp_R14', Option.bind_some, t2, zp_ldi zp_a273 t5 (by decide), Option.bind_some, c2, zp_sti zp_a276 (show 140 * t + q0 < 700 by omega) (by decide), Option.bind_some, ← hQ3, zp_Rv, Option.bind_some, show zk_sm e m_R_sum [.ref 269] (zp_M Q3, n) = _ from e4, zs_cV, Option.bind_some]
      unfold yqs at s4
      cases ho : o1.2 with
      | none =>
        rw [ho] at s4
        obtain ⟨w4, a, c', dv, a1, a2, a3, a0, a4, a5⟩ := s4
        have ee := zs_cE (n := n) (q0 := q0) t4 t5 a3 h4 hq0
        refine ⟨_, hs.trans ee, yF_t F3 (yF_t (yF_C F4) (yF_t (yF_A (by decide)) (yF_A (by decide)))), yKc_t (Nat.le_refl _) K3 (yKc_t (Nat.le_refl _) (yKc_q F4 K4) (yKc_t (Nat.le_refl _) yKc_7 yKc_4)), fun X hX => ?_⟩
        show (zp_sA (zp_sA Q4 277 (140 * t + q0) (zi c')) 274 t (zi (q0 + 1))).1 269 4 = zi o1.1
        exact w4
      | some S =>
        rw [ho] at s4
        obtain ⟨a1, a2, a3, a4, a5⟩ := s4
        have ee := zs_cE (n := n) (q0 := q0) t4 t5 a4 h4 hq0
        refine ⟨_, hs.trans ee, yF_t F3 (yF_t (yF_C F4) (yF_t (yF_A (by decide)) (yF_A (by decide)))), yKc_t (Nat.le_refl _) K3 (yKc_t (Nat.le_refl _) (yKc_q F4 K4) (yKc_t (Nat.le_refl _) yKc_7 yKc_4)), fun X hX => ?_⟩
        show _ ∧ _ ∧ _ ∧ _ ∧ _ ∧ _ ∧ _ ∧ _ ∧ _ ∧ _
        rw [hX]
        refine ⟨a1, a2, a3, t4, ?_, zp_a9, ?_, ?_, ?_, ?_⟩
        · rw [zp_a7 (by decide), zp_a7 (by decide)]; exact a4
        · rw [zp_a7 (by decide), zp_a7 (by decide)]; exact h5
        · rw [zp_a7 (by decide), zp_a7 (by decide)]; exact h6
        · rw [zp_a7 (by decide)]; exact zp_a9
        · intro j o hj
          rw [zp_a7 (show 271 ≠ 274 by decide), zp_a7 (show 271 ≠ 277 by decide), zp_a7 (show 272 ≠ 274 by decide), zp_a7 (show 272 ≠ 277 by decide)]
          exact a5 j o hj
  · refine ⟨(ysk B len m, none), ⟨sl, fun S hS => by cases hS⟩, fun P u e he hT hmk hu hum hE => ?_, fun Q n c T t q0 e he hQ h275 h274 hq0 => ?_⟩
    · obtain ⟨e, rfl⟩ : ∃ e', e = e' + 2 := ⟨e - 2, by omega⟩
      obtain ⟨P1, e1, g1, f1⟩ := zs_takes (d := e) (n := n) (c := 63) hT hmk hm
      rw [decide_eq_false h63] at e1
      rw [if_neg h63] at g1
      refine ⟨P1, ?_, yF_p1 f1, g1, zk_sm_k e1 hE, fun S hS => by cases hS⟩
      rw [e_LawReader_readsGuarded, zp_Y2, Option.bind_some, zp_Pv', Option.bind_some, e1, zs_cI, Option.bind_some, zp_ib, cond_false]
      rfl
    · obtain ⟨Q1, e1, g1, F1, K1, w1, d1, t1, t5, c1, hcm, T1, h274', h275', ea⟩ := RR Q n c T t q0 e he hQ h275 h274 hq0
      have f9 : yF yfQ [] Q1 (zp_sF Q1 269 4 (zi (ysk B len m))) := yF_f (by decide)
      refine ⟨zp_sF Q1 269 4 (zi (ysk B len m)), ?_, yF_t F1 (yF_C (yF_q0 f9)), yKc_t (Nat.le_refl _) K1 (yKc_0 f9), fun X hX => ?_⟩
      · rw [ea, if_neg h63, zp_Rv, Option.bind_some, zs_Rbad g1 w1, zs_cV, Option.bind_some]
      · show (zp_sF Q1 269 4 (zi (ysk B len m))).1 269 4 = zi (ysk B len m)
        exact zp_f9
end
