/-! PARSING 15: laws: a whole one -/
abbrev yPl : Type := Nat × Option yL
def yov (o : yPl) : Int32 := match o.2 with | some _ => -1 | none => zi o.1
/-- rows ahead of q0 and of other laws are kept -/
def yKr (t q0 c : Nat) (Q Q' : zp) : Prop := yKp t c Q Q' ∧ (∀ i, i ≠ t → Q'.2.1 274 i = Q.2.1 274 i) ∧ ∀ i, i < 140 * t + q0 ∨ 140 * t + 140 ≤ i → Q'.2.1 275 i = Q.2.1 275 i ∧ Q'.2.1 276 i = Q.2.1 276 i ∧ Q'.2.1 277 i = Q.2.1 277 i
theorem yKr_c {t q0 c : Nat} {Q Q' : zp} (hq : q0 < 140) (h : yKc t q0 c Q Q') : yKr t q0 c Q Q' := ⟨h.1, h.2.1, fun i hi => h.2.2 i (by omega)⟩
theorem yKr_t {t q0 q1 c c' : Nat} {Q Q' Q'' : zp} (hc : c ≤ c') (hq : q0 ≤ q1) (h : yKr t q0 c Q Q') (h' : yKr t q1 c' Q' Q'') : yKr t q0 c Q Q'' := ⟨yKp_t hc h.1 h'.1, fun i hi => (h'.2.1 i hi).trans (h.2.1 i hi), fun i hi => by
  obtain ⟨a, b, d⟩ := h.2.2 i hi
  obtain ⟨a', b', d'⟩ := h'.2.2 i (by omega)
  exact ⟨a'.trans a, b'.trans b, d'.trans d⟩⟩
/-- the rows of the clauses from q0 on -/
def yrw (t q0 c : Nat) (Y : yL) (Q' : zp) : Prop := ∀ q cl, Y[q]? = some cl → ∃ a, c ≤ a ∧ Q'.2.1 275 (140 * t + (q0 + q)) = zi a ∧ Q'.2.1 276 (140 * t + (q0 + q)) = zi (a + cl.1.length) ∧ Q'.2.1 277 (140 * t + (q0 + q)) = zi (a + cl.1.length + cl.2.length) ∧ a + cl.1.length + cl.2.length ≤ 520 ∧ yps Q' t a (cl.1 ++ cl.2)
theorem yen_c {u : Nat} {T S : List (Nat × Nat)} {Y : yL} : yen u ((T, S) :: Y) = yen u [(T, S)] ++ yen (u + yel T S) Y := by
  show (if T = [] then S.map yec ++ [-59] else T.map yec ++ -63 :: zi (u + T.length + S.length + 3) :: (S.map yec ++ [-59])) ++ yen (if T = [] then u + S.length + 1 else u + T.length + S.length + 3) Y = ((if T = [] then S.map yec ++ [-59] else T.map yec ++ -63 :: zi (u + T.length + S.length + 3) :: (S.map yec ++ [-59])) ++ []) ++ yen (u + yel T S) Y
  rw [List.append_nil]
  unfold yel
  by_cases z : T = []
  · rw [if_pos z, if_pos z, if_pos z, Nat.add_assoc]
  · rw [if_neg z, if_neg z, if_neg z, show u + (T.length + S.length + 3) = u + T.length + S.length + 3 by omega]
theorem yen_l : ∀ (Y : yL) (u v : Nat), (yen u Y).length = (yen v Y).length
  | [], _, _ => rfl
  | (T, S) :: Y, u, v => by
    rw [yen_c (u := u) (Y := Y), yen_c (u := v) (Y := Y), List.length_append, List.length_append, yen_1, yen_1, yen_l Y _ (v + yel T S)]
section
variable {n : Nat × Nat} {L len m : Nat} {xs : Nat → Int32} {B : Nat → Nat}
def yLw (n : Nat × Nat) (L : Nat) (xs : Nat → Int32) (B : Nat → Nat) (len m : Nat) (o : yPl) : Prop := (o.1 ≤ len ∧ ∀ Y, o.2 = some Y → (yen 0 Y).length + m ≤ o.1 ∧ 2 * Y.length + m ≤ o.1 + 2 ∧ ywf Y) ∧
  (∀ (P : zp) (u k e : Nat), 61 ≤ e → yc0 n L xs B len m u P → k ≤ m → ∃ P', zk_sf (e + 1) m_LawReader_firstFault 15 [.ref 24, .int (zi k)] [] (zp_M P, n) = some (some (.int (yov o)), (zp_M P', n)) ∧ yF yfP [25] P P' ∧ zk_kE L xs (zp_M P', n) ∧ ∀ Y, o.2 = some Y → P'.1 24 1 = zi (u + (yen u Y).length) ∧ (∀ (j : Nat) (x : Int32), (yen u Y)[j]? = some x → P'.2.1 25 (u + j) = x) ∧ ∀ j, j < u → P'.2.1 25 j = P.2.1 25 j) ∧
  ∀ (Q : zp) (n : Nat × Nat) (c t q0 e : Nat) (i1 : Int32), 61 ≤ e → yq0 B len m c 0 t Q → Q.2.1 274 t = zi q0 → 2 * q0 ≤ m → ∃ Q', ((zk_cV (zk_sm e m_R_clause [.ref 269] (zp_M Q, n))).bind fun t2 => zk_sf (e + 1) m_R_readLaw 9 [.ref 269, .int i1] [] t2) = some (some (.int (yov o)), (zp_M Q', n)) ∧ yF yfQ ykC Q Q' ∧ yKr t q0 c Q Q' ∧ ∀ Y, o.2 = some Y → Q'.2.1 274 t = zi (q0 + Y.length) ∧ yrw t q0 c Y Q'
set_option maxHeartbeats 4000000 in
theorem yR_law (hB : ∀ i, i < len → 1 ≤ B i ∧ B i < 256) (h240 : len ≤ 240) : ∀ (j m : Nat), len - m = j → m ≤ len → ∃ o : yPl, yLw n L xs B len m o := by
  intro j
  induction j using Nat.strongRecOn with
  | _ j ihj =>
  intro m hj hm
  obtain ⟨o1, ⟨k1, k2⟩, oC, oR⟩ := yR_clause (n := n) (L := L) (xs := xs) hB h240 hm
  have hkk : ∀ k, k ≤ m → ¬ (240 : Int32) < zi k := fun k hk z => absurd ((zi_l (i := 240) (by decide) (by omega)).mp z) (by omega)
  cases ho : o1.2 with
  | none =>
    refine ⟨(o1.1, none), ⟨k1, fun Y hY => by cases hY⟩, fun P u k e he hP hk => ?_, fun Q n c t q0 e i1 he hQ h4 hq0 => ?_⟩
    · obtain ⟨P3, e3, F3, g3, E3, -⟩ := oC P u e he hP
      refine ⟨P3, ?_, F3, E3, fun Y hY => by cases hY⟩
      rw [e_LawReader_firstFault_15, if_neg (hkk k hk), zp_Yv, Option.bind_some, e3, zs_cI, Option.bind_some, show yobc o1 = 0 by unfold yobc; rw [ho], if_pos rfl, zp_Y2, Option.bind_some, zp_P1, Option.bind_some, g3]
      rfl
    · obtain ⟨Q3, e3, F3, K3, s3, -⟩ := oR Q n c t q0 e he hQ h4 (by omega)
      unfold yqc at s3
      rw [ho] at s3
      have s3 : Q3.1 269 4 = zi o1.1 := s3
      obtain ⟨e', rfl⟩ : ∃ e', e = e' + 1 := ⟨e - 1, by omega⟩
      refine ⟨Q3, ?_, F3, yKr_c (by omega) K3, fun Y hY => by cases hY⟩
      rw [e3, zs_cV, Option.bind_some, e_R_readLaw_9, zp_R4', Option.bind_some, s3, if_neg (zi_n1 (by omega)), zp_Rv, Option.bind_some, e_R_atEnd, zp_R4', Option.bind_some, s3, if_neg (zi_n1 (by omega)), Option.bind_some, zs_cI, Option.bind_some]
      rfl
  | some TS =>
    obtain ⟨T, S⟩ := TS
    obtain ⟨b1, b2, b3⟩ := k2 T S ho
    have hS0 : S ≠ [] := fun z => by rw [z] at b3; cases b3
    have hSl : 1 ≤ S.length := by
      rcases Nat.eq_zero_or_pos S.length with z | z
      · exact absurd (List.eq_nil_of_length_eq_zero z) hS0
      · exact z
    have hel : S.length + T.length ≤ yel T S ∧ 2 ≤ yel T S := by
      unfold yel
      by_cases z : T = []
      · rw [if_pos z, z]; exact ⟨by show S.length + 0 ≤ _; omega, by omega⟩
      · rw [if_neg z]; omega
    have sg := @ysk_ge B len o1.1
    have sl := ysk_le (B := B) k1
    -- the class behind the clause
    have CC : ∀ (P : zp) (u k e : Nat), 61 ≤ e → yc0 n L xs B len m u P → k ≤ m → ∃ P3, yc0 n L xs B len (ysk B len o1.1) (u + yel T S) P3 ∧ yF yfP [25] P P3 ∧ (∀ (j : Nat) (x : Int32), (yen u [(T, S)])[j]? = some x → P3.2.1 25 (u + j) = x) ∧ (∀ j, j < u → P3.2.1 25 j = P.2.1 25 j) ∧ zk_sf (e + 1) m_LawReader_firstFault 15 [.ref 24, .int (zi k)] [] (zp_M P, n) = (if yhb B len (ysk B len o1.1) = -1 then some (some (.int (-1)), (zp_M P3, n)) else (zk_gR (zp_M P3, n) 24 2 2).bind fun b8 => (zk_rv (zp_M P3, n) b8 9).bind fun _ => (zk_cI (zk_sm e m_Tape_takes [.ref b8, .int 59] (zp_M P3, n))).bind fun p9 => if p9.1 = 0 then (zk_gR p9.2 24 2 2).bind fun b10 => (zk_gI p9.2 b10 9 1).bind fun x11 => some (some (.int x11), p9.2) else zk_sf (e + 1) m_LawReader_firstFault 15 [.ref 24, .int (zi (k + 1))] [] p9.2) := by
      intro P u k e he hP hk
      have hum : u ≤ m := hP.2.2.2.2.1
      obtain ⟨P3, e3, F3, g3, E3, X3⟩ := oC P u e he hP
      obtain ⟨x1, x2, x3⟩ := X3 T S ho
      have T3 := yTp_F (by decide) (by decide) F3 hP.1
      obtain ⟨P4, e4, g4, f4⟩ := zs_sign (d := e) (n := n) T3 g3 k1
      refine ⟨P4, ⟨yTp_F (by decide) (by decide) f4 T3, g4, sl, (f4.1 24 1 (by decide)).trans x1, by omega, zk_sm_k e4 E3⟩, yF_t F3 (yF_p1 f4), fun j x hj => by rw [f4.2.1 25 (by decide)]; exact x2 j x hj, fun j hj => by rw [f4.2.1 25 (by decide), x3 j hj], ?_⟩
      rw [e_LawReader_firstFault_15, if_neg (hkk k hk), zp_Yv, Option.bind_some, e3, zs_cI, Option.bind_some, show yobc o1 = 1 by unfold yobc; rw [ho], if_neg zi_1n, zp_Y2, Option.bind_some, zp_Pv', Option.bind_some, e4, zs_cI, Option.bind_some, zi_s]
    have RR : ∀ (Q : zp) (n : Nat × Nat) (c t q0 e : Nat) (i1 : Int32), 61 ≤ e → yq0 B len m c 0 t Q → Q.2.1 274 t = zi q0 → 2 * q0 ≤ m → ∃ Q3, yq0 B len (ysk B len o1.1) (c + T.length + S.length) 0 t Q3 ∧ yF yfQ ykC Q Q3 ∧ yKc t q0 c Q Q3 ∧ Q3.2.1 274 t = zi (q0 + 1) ∧ (Q3.2.1 275 (140 * t + q0) = zi c ∧ Q3.2.1 276 (140 * t + q0) = zi (c + T.length) ∧ Q3.2.1 277 (140 * t + q0) = zi (c + T.length + S.length) ∧ yps Q3 t c (T ++ S)) ∧ ((zk_cV (zk_sm e m_R_clause [.ref 269] (zp_M Q, n))).bind fun t2 => zk_sf (e + 1) m_R_readLaw 9 [.ref 269, .int i1] [] t2) = (if yhb B len (ysk B len o1.1) = 59 then (zk_gI (zp_M Q3, n) 269 12 3).bind fun x3 => (zk_pf (zp_M Q3, n) 269 12 3 (.int (x3 + 1))).bind fun t4 => (zk_rv t4 269 12).bind fun _ => (zk_cV (zk_sm e m_R_clause [.ref 269] t4)).bind fun t5 => zk_sf (e + 1) m_R_readLaw 9 [.ref 269, .int i1] [] t5 else (zk_rv (zp_M Q3, n) 269 12).bind fun _ => (zk_cI (zk_sm e m_R_atEnd [.ref 269] (zp_M Q3, n))).bind fun p6 => some (some (.int p6.1), p6.2)) := by
      intro Q n c t q0 e i1 he hQ h4 hq0
      have hcm : c ≤ m := hQ.2.2.2.2.2.2.2.2
      obtain ⟨e', rfl⟩ : ∃ e', e = e' + 1 := ⟨e - 1, by omega⟩
      obtain ⟨Q3, e3, F3, K3, s3, p3⟩ := oR Q n c t q0 (e' + 1) he hQ h4 (by omega)
      have p3 := p3 T S ho
      unfold yqc at s3
      rw [ho] at s3
      obtain ⟨a1, a2, a3, a4, a5, a6, a7, a8, a9, -⟩ := s3
      have T3 := yTq_F (by decide) (by decide) F3 hQ.1
      obtain ⟨Q4, e4, g4, f4⟩ := zs_Rlook (d := e') (n := n) T3 a1 (by omega)
      refine ⟨Q4, ⟨yTq_F (by decide) (by decide) f4 T3, g4, sl, (f4.1 269 4 (by decide)).trans a2, (f4.1 269 5 (by decide)).trans a3, (f4.1 269 14 (by decide)).trans a4, hQ.2.2.2.2.2.2.1, by rw [f4.2.1 273 (by decide)]; exact a5, by omega⟩, yF_t F3 (yF_C (yF_q3 f4)), yKc_t (Nat.le_refl c) K3 (yKc_0 f4), by rw [f4.2.1 274 (by decide)]; exact a6, ⟨by rw [f4.2.1 275 (by decide)]; exact a7, by rw [f4.2.1 276 (by decide)]; exact a8, by rw [f4.2.1 277 (by decide)]; exact a9, yps_k p3 (yKp_f f4) (Nat.le_refl _)⟩, ?_⟩
      · rw [e3, zs_cV, Option.bind_some, e_R_readLaw_9, zp_R4', Option.bind_some, a2, if_pos rfl, zp_Rv, Option.bind_some, e4, zs_cI, Option.bind_some]
    by_cases h59 : yhb B len (ysk B len o1.1) = 59
    · have hlt : ysk B len o1.1 < len := yhb_lt h59 (by decide)
      have hne : ¬ yhb B len (ysk B len o1.1) = -1 := fun z => by rw [h59] at z; exact absurd z (by decide)
      obtain ⟨o2, ⟨c1, c2⟩, o2C, o2R⟩ := ihj (len - (ysk B len o1.1 + 1)) (by omega) (ysk B len o1.1 + 1) rfl hlt
      refine ⟨(o2.1, o2.2.map (fun Y => (T, S) :: Y)), ⟨c1, fun Y hY => ?_⟩, fun P u k e he hP hk => ?_, fun Q n c t q0 e i1 he hQ h4 hq0 => ?_⟩
      · obtain ⟨Z, hZ, rfl⟩ := Option.map_eq_some_iff.mp hY
        obtain ⟨d1, d2, d3⟩ := c2 Z hZ
        refine ⟨?_, ?_, fun cl hcl => ?_⟩
        · rw [yen_c, List.length_append, yen_1, yen_l Z (0 + yel T S) 0]
          show _ ≤ o2.1
          omega
        · rw [List.length_cons]
          show 2 * (Z.length + 1) + m ≤ o2.1 + 2
          omega
        · rcases List.mem_cons.mp hcl with z | z
          · rw [z]; exact ⟨b2, b3⟩
          · exact d3 cl z
      · have hum : u ≤ m := hP.2.2.2.2.1
        obtain ⟨P3, hP3, F3, x2, x3, ea⟩ := CC P u k e he hP hk
        obtain ⟨y1, y2, y3, y4, y5, y6⟩ := hP3
        obtain ⟨e', rfl⟩ : ∃ e', e = e' + 1 := ⟨e - 1, by omega⟩
        obtain ⟨P4, e4, g4, f4⟩ := zs_takes (d := e') (n := n) (c := 59) y1 y2 y3
        rw [ysk_2, decide_eq_true h59] at e4
        rw [ysk_2, if_pos h59] at g4
        obtain ⟨P5, e5, F5, E5, X5⟩ := o2C P4 (u + yel T S) (k + 1) (e' + 1) he ⟨yTp_F (by decide) (by decide) f4 y1, g4, hlt, (f4.1 24 1 (by decide)).trans y4, by omega, zk_sm_k e4 y6⟩ (by omega)
        refine ⟨P5, ?_, yF_t F3 (yF_t (yF_p1 f4) F5), E5, fun Y hY => ?_⟩
        · rw [ea, if_neg hne, zp_Y2, Option.bind_some, zp_Pv', Option.bind_some, e4, zs_cI, Option.bind_some, zp_ib, cond_true, e5]
          cases hz : o2.2 <;> (unfold yov; rw [hz]; rfl)
        · obtain ⟨Z, hZ, rfl⟩ := Option.map_eq_some_iff.mp hY
          obtain ⟨v1, v2, v3⟩ := X5 Z hZ
          rw [yen_c]
          refine ⟨?_, fun j x hj => ?_, fun j hj => ?_⟩
          · rw [v1, List.length_append, yen_1, Nat.add_assoc]
          · rcases Nat.lt_or_ge j (yen u [(T, S)]).length with z | z
            · rw [List.getElem?_append_left z] at hj
              rw [yen_1] at z
              rw [v3 _ (by omega), f4.2.1 25 (by decide)]
              exact x2 j x hj
            · rw [List.getElem?_append_right z, yen_1] at hj
              rw [yen_1] at z
              have := v2 _ x hj
              rw [show u + yel T S + (j - yel T S) = u + j by omega] at this
              exact this
          · rw [v3 j (by omega), f4.2.1 25 (by decide), x3 j hj]
      · have hcm : c ≤ m := hQ.2.2.2.2.2.2.2.2
        obtain ⟨Q3, hQ3, F3, K3, q3, r3, ea⟩ := RR Q n c t q0 e i1 he hQ h4 hq0
        obtain ⟨z1, z2, z3, z4, z5, z6, z7, z8, z9⟩ := hQ3
        obtain ⟨Q4, hQ4⟩ : ∃ Q4, Q4 = zp_sF Q3 269 3 (zi (ysk B len o1.1 + 1)) := ⟨_, rfl⟩
        have f4 : yF [(269, 3)] [] Q3 Q4 := by rw [hQ4]; exact yF_f (by decide)
        obtain ⟨Q5, e5, F5, K5, X5⟩ := o2R Q4 n (c + T.length + S.length) t (q0 + 1) e i1 he ⟨yTq_F (by decide) (by decide) f4 z1, by rw [hQ4]; exact zp_f9, hlt, (f4.1 269 4 (by decide)).trans z4, (f4.1 269 5 (by decide)).trans z5, (f4.1 269 14 (by decide)).trans z6, z7, by rw [f4.2.1 273 (by decide)]; exact z8, by omega⟩ (by rw [f4.2.1 274 (by decide)]; exact q3) (by omega)
        refine ⟨Q5, ?_, yF_t F3 (yF_t (yF_C (yF_q3 f4)) F5), yKr_t (Nat.le_refl c) (Nat.le_refl q0) (yKr_c (by omega) K3) (yKr_t (by omega) (by omega) (yKr_c (by omega) (yKc_0 (c := c) f4)) K5), fun Y hY => ?_⟩
        · rw [ea, if_pos h59, zp_R3', Option.bind_some, z2, zi_s, zp_R3p, Option.bind_some, ← hQ4, zp_Rv, Option.bind_some, e5]
          cases hz : o2.2 <;> (unfold yov; rw [hz]; rfl)
        · obtain ⟨Z, hZ, rfl⟩ := Option.map_eq_some_iff.mp hY
          obtain ⟨v1, v2⟩ := X5 Z hZ
          refine ⟨by rw [v1, List.length_cons, show q0 + 1 + Z.length = q0 + (Z.length + 1) by omega], fun q cl hq => ?_⟩
          match q, hq with
          | 0, hq =>
            obtain ⟨r1, r2, r3, r4⟩ := r3
            obtain ⟨w1, w2, w3⟩ := K5.2.2 (140 * t + (q0 + 0)) (Or.inl (by omega))
            cases hq
            rw [w1, w2, w3, f4.2.1 275 (by decide), f4.2.1 276 (by decide), f4.2.1 277 (by decide)]
            refine ⟨c, Nat.le_refl c, r1, r2, r3, by show c + T.length + S.length ≤ 520; omega, yps_k (yps_k r4 (yKp_f f4) (Nat.le_refl _)) K5.1 ?_⟩
            rw [List.length_append]
            show c + (T.length + S.length) ≤ c + T.length + S.length
            omega
          | q + 1, hq =>
            obtain ⟨a, a1, a2, a3, a4, a5, a6⟩ := v2 q cl hq
            rw [show q0 + (q + 1) = q0 + 1 + q by omega]
            exact ⟨a, by omega, a2, a3, a4, a5, a6⟩
    · by_cases hend : yhb B len (ysk B len o1.1) = -1
      · refine ⟨(ysk B len o1.1, some [(T, S)]), ⟨sl, fun Y hY => ?_⟩, fun P u k e he hP hk => ?_, fun Q n c t q0 e i1 he hQ h4 hq0 => ?_⟩
        · cases hY
          refine ⟨by rw [yen_1]; show _ ≤ ysk B len o1.1; omega, by show 2 * 1 + m ≤ ysk B len o1.1 + 2; omega, fun cl hcl => ?_⟩
          rw [List.mem_singleton.mp hcl]; exact ⟨b2, b3⟩
        · obtain ⟨P3, hP3, F3, x2, x3, ea⟩ := CC P u k e he hP hk
          refine ⟨P3, by rw [ea, if_pos hend]; rfl, F3, hP3.2.2.2.2.2, fun Y hY => ?_⟩
          cases hY
          exact ⟨by rw [yen_1]; exact hP3.2.2.2.1, x2, x3⟩
        · obtain ⟨Q3, hQ3, F3, K3, q3, r3, ea⟩ := RR Q n c t q0 e i1 he hQ h4 hq0
          obtain ⟨z1, z2, z3, z4, z5, z6, z7, z8, z9⟩ := hQ3
          obtain ⟨e', rfl⟩ : ∃ e', e = e' + 2 := ⟨e - 2, by omega⟩
          obtain ⟨Q4, e4, g4, f4⟩ := zs_Rlook (d := e') (n := n) z1 z2 (by omega)
          rw [ysk_2] at e4
          refine ⟨Q4, ?_, yF_t F3 (yF_C (yF_q3 f4)), yKr_t (Nat.le_refl c) (Nat.le_refl q0) (yKr_c (by omega) K3) (yKr_c (by omega) (yKc_0 f4)), fun Y hY => ?_⟩
          · rw [ea, if_neg h59, zp_Rv, Option.bind_some, e_R_atEnd, zp_R4', Option.bind_some, z4, if_pos rfl, zp_Rv, Option.bind_some, e4, zs_cI, Option.bind_some, if_pos hend, zp_R4', Option.bind_some, f4.1 269 4 (by decide), z4, zs_cI, Option.bind_some]
            rfl
          · cases hY
            refine ⟨by rw [f4.2.1 274 (by decide)]; exact q3, fun q cl hq => ?_⟩
            obtain ⟨r1, r2, r3, r4⟩ := r3
            match q, hq with
            | 0, hq =>
              cases hq
              rw [f4.2.1 275 (by decide), f4.2.1 276 (by decide), f4.2.1 277 (by decide)]
              exact ⟨c, Nat.le_refl c, r1, r2, r3, by show c + T.length + S.length ≤ 520; omega, yps_k r4 (yKp_f f4) (Nat.le_refl _)⟩
            | q + 1, hq => cases hq
      · refine ⟨(ysk B len o1.1, none), ⟨sl, fun Y hY => by cases hY⟩, fun P u k e he hP hk => ?_, fun Q n c t q0 e i1 he hQ h4 hq0 => ?_⟩
        · obtain ⟨P3, hP3, F3, x2, x3, ea⟩ := CC P u k e he hP hk
          obtain ⟨y1, y2, y3, y4, y5, y6⟩ := hP3
          obtain ⟨e', rfl⟩ : ∃ e', e = e' + 1 := ⟨e - 1, by omega⟩
          obtain ⟨P4, e4, g4, f4⟩ := zs_takes (d := e') (n := n) (c := 59) y1 y2 y3
          rw [ysk_2, decide_eq_false h59] at e4
          rw [ysk_2, if_neg h59] at g4
          refine ⟨P4, ?_, yF_t F3 (yF_p1 f4), zk_sm_k e4 y6, fun Y hY => by cases hY⟩
          rw [ea, if_neg hend, zp_Y2, Option.bind_some, zp_Pv', Option.bind_some, e4, zs_cI, Option.bind_some, zp_ib, cond_false, zp_Y2, Option.bind_some, zp_P1, Option.bind_some, g4]
          rfl
        · obtain ⟨Q3, hQ3, F3, K3, q3, r3, ea⟩ := RR Q n c t q0 e i1 he hQ h4 hq0
          obtain ⟨z1, z2, z3, z4, z5, z6, z7, z8, z9⟩ := hQ3
          obtain ⟨e', rfl⟩ : ∃ e', e = e' + 2 := ⟨e - 2, by omega⟩
          obtain ⟨Q4, e4, g4, f4⟩ := zs_Rlook (d := e') (n := n) z1 z2 (by omega)
          rw [ysk_2] at e4 g4
          have w4 : Q4.1 269 4 = -1 := (f4.1 269 4 (by decide)).trans z4
          have f5 : yF yfQ [] Q4 (zp_sF Q4 269 4 (zi (ysk B len o1.1))) := yF_f (by decide)
          refine ⟨zp_sF Q4 269 4 (zi (ysk B len o1.1)), ?_, yF_t F3 (yF_t (yF_C (yF_q3 f4)) (yF_C (yF_q0 f5))), yKr_t (Nat.le_refl c) (Nat.le_refl q0) (yKr_c (by omega) K3) (yKr_t (Nat.le_refl c) (Nat.le_refl q0) (yKr_c (by omega) (yKc_0 f4)) (yKr_c (by omega) (yKc_0 f5))), fun Y hY => by cases hY⟩
          rw [ea, if_neg h59, zp_Rv, Option.bind_some, e_R_atEnd, zp_R4', Option.bind_some, z4, if_pos rfl, zp_Rv, Option.bind_some, e4, zs_cI, Option.bind_some, if_neg hend, zp_Rv, Option.bind_some, zs_Rbad g4 w4, zs_cV, Option.bind_some, zp_R4', Option.bind_some, zp_f9, zs_cI, Option.bind_some]
          rfl
end
