/-! PARSING 13: laws: a clause -/
abbrev yPc : Type := Nat × Option (List (Nat × Nat) × List (Nat × Nat))
def yobc (o : yPc) : Int32 := match o.2 with | some _ => 1 | none => 0
def yel (T S : List (Nat × Nat)) : Nat := if T = [] then S.length + 1 else T.length + S.length + 3
theorem yen_1 {u : Nat} {T S : List (Nat × Nat)} : (yen u [(T, S)]).length = yel T S := by
  show ((if T = [] then S.map yec ++ [-59] else T.map yec ++ -63 :: zi (u + T.length + S.length + 3) :: (S.map yec ++ [-59])) ++ []).length = _
  unfold yel
  by_cases z : T = []
  · rw [if_pos z, if_pos z, List.append_nil, List.length_append, List.length_map]; rfl
  · rw [if_neg z, if_neg z, List.append_nil, List.length_append, List.length_map, List.length_cons, List.length_cons, List.length_append, List.length_map]
    show T.length + (S.length + 1 + 1 + 1) = _
    omega
theorem ytyT_ne {k : Nat} {T : List (Nat × Nat)} (h : ytyT k T) : T ≠ [] ∧ yty T [] = some [true] := by
  have h0 := h [] (Nat.zero_le k)
  refine ⟨fun z => ?_, h0⟩
  rw [z] at h0
  cases h0
/-- the class's code of a clause with a condition -/
theorem yen_g {P : zp} {u : Nat} {T S : List (Nat × Nat)} (hT : T ≠ []) (h1 : ycs P u T) (h2 : P.2.1 25 (u + T.length) = -63) (h3 : P.2.1 25 (u + T.length + 1) = zi (u + T.length + S.length + 3)) (h4 : ycs P (u + T.length + 2) S) (h5 : P.2.1 25 (u + T.length + 2 + S.length) = -59) : ∀ (j : Nat) (x : Int32), (yen u [(T, S)])[j]? = some x → P.2.1 25 (u + j) = x := by
  intro j x hj
  have e : yen u [(T, S)] = T.map yec ++ -63 :: zi (u + T.length + S.length + 3) :: (S.map yec ++ [-59]) := by
    show (if T = [] then S.map yec ++ [-59] else T.map yec ++ -63 :: zi (u + T.length + S.length + 3) :: (S.map yec ++ [-59])) ++ [] = _
    rw [if_neg hT, List.append_nil]
  rw [e] at hj
  rcases Nat.lt_or_ge j T.length with z | z
  · rw [List.getElem?_append_left (by rw [List.length_map]; exact z), List.getElem?_map] at hj
    obtain ⟨o, ho, rfl⟩ := Option.map_eq_some_iff.mp hj
    exact h1 j o ho
  · rw [List.getElem?_append_right (by rw [List.length_map]; exact z), List.length_map] at hj
    obtain ⟨i, rfl⟩ : ∃ i, j = T.length + i := ⟨j - T.length, by omega⟩
    rw [show T.length + i - T.length = i by omega] at hj
    rw [← Nat.add_assoc]
    match i, hj with
    | 0, hj => cases hj; exact h2
    | 1, hj => cases hj; exact h3
    | i + 2, hj =>
      have hj : (S.map yec ++ [-59])[i]? = some x := hj
      rcases Nat.lt_or_ge i S.length with y | y
      · rw [List.getElem?_append_left (by rw [List.length_map]; exact y), List.getElem?_map] at hj
        obtain ⟨o, ho, rfl⟩ := Option.map_eq_some_iff.mp hj
        have := h4 i o ho
        rw [show u + T.length + 2 + i = u + T.length + (i + 2) by omega] at this
        exact this
      · rw [List.getElem?_append_right (by rw [List.length_map]; exact y), List.length_map] at hj
        have hl := (List.getElem?_eq_some_iff.mp hj).1
        have hi : i = S.length := by
          have : i - S.length < 1 := hl
          omega
        rw [hi, Nat.sub_self] at hj
        cases hj
        rw [hi, show u + T.length + (S.length + 2) = u + T.length + 2 + S.length by omega]
        exact h5
/-- .. without one -/
theorem yen_n {P : zp} {u : Nat} {S : List (Nat × Nat)} (h4 : ycs P u S) (h5 : P.2.1 25 (u + S.length) = -59) : ∀ (j : Nat) (x : Int32), (yen u [([], S)])[j]? = some x → P.2.1 25 (u + j) = x := by
  intro j x hj
  have e : yen u [([], S)] = S.map yec ++ [-59] := by
    show (if ([] : List (Nat × Nat)) = [] then S.map yec ++ [-59] else _) ++ [] = _
    rw [if_pos rfl, List.append_nil]
  rw [e] at hj
  rcases Nat.lt_or_ge j S.length with y | y
  · rw [List.getElem?_append_left (by rw [List.length_map]; exact y), List.getElem?_map] at hj
    obtain ⟨o, ho, rfl⟩ := Option.map_eq_some_iff.mp hj
    exact h4 j o ho
  · rw [List.getElem?_append_right (by rw [List.length_map]; exact y), List.length_map] at hj
    have hl := (List.getElem?_eq_some_iff.mp hj).1
    have hi : j = S.length := by
      have : j - S.length < 1 := hl
      omega
    rw [hi, Nat.sub_self] at hj
    cases hj
    rw [hi]
    exact h5
section
variable {P Q : zp} {n : Nat × Nat} {L len m c t q0 : Nat} {xs : Nat → Int32} {B : Nat → Nat}
/-- behind a fault the rows are closed -/
theorem zs_gfail {e q c0 : Nat} (hw : Q.1 269 4 = zi q) (hq : q < 1000) (ht : Q.1 269 14 = zi t) (h5 : t < 5) (hc : Q.2.1 273 t = zi c) (h4 : Q.2.1 274 t = zi q0) (hq0 : q0 < 140) : ∃ Q', ygR e (zi (140 * t + q0)) (zp_M Q, n) = some (none, (zp_M Q', n)) ∧ yF yfQ ykC Q Q' ∧ yKc t q0 c0 Q Q' ∧ Q'.1 269 4 = zi q := by
  have ee := zs_cE (n := n) (Q := zp_sA Q 276 (140 * t + q0) (Q.2.1 275 (140 * t + q0))) (q0 := q0) ht h5 (by rw [zp_a7 (by decide)]; exact hc) (by rw [zp_a7 (by decide)]; exact h4) hq0
  refine ⟨zp_sA (zp_sA (zp_sA Q 276 (140 * t + q0) (Q.2.1 275 (140 * t + q0))) 277 (140 * t + q0) (zi c)) 274 t (zi (q0 + 1)), ?_, yF_t (yF_A (by decide)) (yF_t (yF_A (by decide)) (yF_A (by decide))), yKc_t (Nat.le_refl _) yKc_6 (yKc_t (Nat.le_refl _) yKc_7 yKc_4), hw⟩
  unfold ygR
  rw [zp_R11', Option.bind_some, zp_R10', Option.bind_some, zp_ldi zp_a275 (show 140 * t + q0 < 700 by omega) (by decide), Option.bind_some, zp_sti zp_a276 (show 140 * t + q0 < 700 by omega) (by decide), Option.bind_some, zp_R4', Option.bind_some, show (zp_sA Q 276 (140 * t + q0) (Q.2.1 275 (140 * t + q0))).1 269 4 = zi q from hw, if_neg (zi_n1 (by omega))]
  exact ee
/-- a clause without a condition closes its rows -/
theorem zs_166 {e : Nat} {i2 : Int32} (ht : Q.1 269 14 = zi t) (h5 : t < 5) (hc : Q.2.1 273 t = zi c) (h4 : Q.2.1 274 t = zi q0) (hq0 : q0 < 140) : zk_sf (e + 1) m_R_clause 166 [.ref 269, .int (zi (140 * t + q0)), .int i2] [] (zp_M Q, n) = some (none, (zp_M (zp_sA (zp_sA (zp_sA Q 276 (140 * t + q0) (Q.2.1 275 (140 * t + q0))) 277 (140 * t + q0) (zi c)) 274 t (zi (q0 + 1))), n)) := by
  have ee := zs_cE (n := n) (Q := zp_sA Q 276 (140 * t + q0) (Q.2.1 275 (140 * t + q0))) (q0 := q0) ht h5 (by rw [zp_a7 (by decide)]; exact hc) (by rw [zp_a7 (by decide)]; exact h4) hq0
  rw [e_R_clause_166, zp_R11', Option.bind_some, zp_R10', Option.bind_some, zp_ldi zp_a275 (show 140 * t + q0 < 700 by omega) (by decide), Option.bind_some, zp_sti zp_a276 (show 140 * t + q0 < 700 by omega) (by decide), Option.bind_some]
  exact ee
/-- a clause, by both sides -/
def yCl (n : Nat × Nat) (L : Nat) (xs : Nat → Int32) (B : Nat → Nat) (len m : Nat) (o : yPc) : Prop := (o.1 ≤ len ∧ ∀ T S, o.2 = some (T, S) → yel T S + m ≤ o.1 ∧ (T = [] ∨ yty T [] = some [true]) ∧ yty S [] = some [false]) ∧
  (∀ (P : zp) (u e : Nat), 61 ≤ e → yc0 n L xs B len m u P → ∃ P', zk_sm e m_LawReader_readsClause [.ref 24] (zp_M P, n) = some (some (.int (yobc o)), (zp_M P', n)) ∧ yF yfP [25] P P' ∧ P'.1 13 1 = zi o.1 ∧ zk_kE L xs (zp_M P', n) ∧ ∀ T S, o.2 = some (T, S) → P'.1 24 1 = zi (u + yel T S) ∧ (∀ (j : Nat) (x : Int32), (yen u [(T, S)])[j]? = some x → P'.2.1 25 (u + j) = x) ∧ ∀ j, j < u → P'.2.1 25 j = P.2.1 25 j) ∧
  ∀ (Q : zp) (n : Nat × Nat) (c t q0 e : Nat), 61 ≤ e → yq0 B len m c 0 t Q → Q.2.1 274 t = zi q0 → q0 < 140 → ∃ Q', zk_sm e m_R_clause [.ref 269] (zp_M Q, n) = some (none, (zp_M Q', n)) ∧ yF yfQ ykC Q Q' ∧ yKc t q0 c Q Q' ∧ yqc t c q0 o Q' ∧ ∀ T S, o.2 = some (T, S) → yps Q' t c (T ++ S)
noncomputable def ygC (e : Nat) (r : Option zk_R) : Option zk_R := (zk_cI r).bind fun p7 => if p7.1 = 0 then some (some (.int 0), p7.2) else (zk_rv p7.2 24 2).bind fun _ => (zk_cI (zk_sm e m_LawReader_readsGuarded [.ref 24] p7.2)).bind fun p8 => if p8.1 = 0 then some (some (.int 0), p8.2) else some (some (.int 1), p8.2)
noncomputable def ysC (e : Nat) (s : zk_S) : Option zk_R := (zk_cI (zk_sm e m_LawReader_readsSum [.ref 24, .int 0] s)).bind fun p11 => if p11.1 = 0 then some (some (.int 0), p11.2) else (zk_gR p11.2 24 2 2).bind fun b12 => (zk_rv p11.2 b12 9).bind fun _ => (zk_cI (zk_sm e m_Tape_sign [.ref b12] p11.2)).bind fun p13 => (zk_cI (zk_sm e m_LawReader_isComparison [.int p13.1] p13.2)).bind fun p14 => if p14.1 = 0 then (zk_rv p14.2 24 2).bind fun _ => (zk_cV (zk_sm e m_LawReader_emit [.ref 24, .int (-59)] p14.2)).bind fun t15 => some (some (.int 1), t15) else (zk_rv p14.2 24 2).bind fun _ => ygC e (zk_sm e m_LawReader_readsCondition [.ref 24, .int 0, .int 1] p14.2)
set_option maxHeartbeats 4000000 in
/-- behind y: the class at the mark q, the reference at q with its row begun -/
theorem yR_clause2 (hB : ∀ i, i < len → 1 ≤ B i ∧ B i < 256) (h240 : len ≤ 240) (hm : m ≤ len) (hs : ysk B len m = m) : ∃ o : yPc, (o.1 ≤ len ∧ ∀ T S, o.2 = some (T, S) → yel T S + m ≤ o.1 + 2 ∧ (T = [] ∨ yty T [] = some [true]) ∧ yty S [] = some [false]) ∧
  (∀ (P : zp) (u e : Nat), 60 ≤ e → yc0 n L xs B len m u P → u + 2 ≤ m → ∃ P', (if yhb B len m = 33 ∨ yhb B len m = 40 then ygC e (zk_sm e m_LawReader_readsCondition [.ref 24, .int 0, .int 0] (zp_M P, n)) else ysC e (zp_M P, n)) = some (some (.int (yobc o)), (zp_M P', n)) ∧ yF yfP [25] P P' ∧ P'.1 13 1 = zi o.1 ∧ zk_kE L xs (zp_M P', n) ∧ ∀ T S, o.2 = some (T, S) → P'.1 24 1 = zi (u + yel T S) ∧ (∀ (j : Nat) (x : Int32), (yen u [(T, S)])[j]? = some x → P'.2.1 25 (u + j) = x) ∧ ∀ j, j < u → P'.2.1 25 j = P.2.1 25 j) ∧
  ∀ (Q : zp) (n : Nat × Nat) (c t q0 e : Nat), 60 ≤ e → yq0 B len m c 0 t Q → Q.2.1 274 t = zi q0 → q0 < 140 → Q.2.1 275 (140 * t + q0) = zi c → ∃ Q', zk_sf (e + 1) m_R_clause 128 [.ref 269, .int (zi (140 * t + q0)), .retAddr 0] [.int (if yhb B len m = 33 ∨ yhb B len m = 40 then 1 else 0)] (zp_M Q, n) = some (none, (zp_M Q', n)) ∧ yF yfQ ykC Q Q' ∧ yKc t q0 c Q Q' ∧ yqc t c q0 o Q' ∧ ∀ T S, o.2 = some (T, S) → yps Q' t c (T ++ S) := by
  have hU : ∀ m', m ≤ m' → m' ≤ len → yRx n L xs B len m' 0 54 (yfU 0) yrU (ytyT (2 * 0 + 2)) := fun m' _ h2 => yR_units hB h240 (len + 1) m' 0 (by omega) h2 (by decide)
  by_cases hc : yhb B len m = 33 ∨ yhb B len m = 40
  · obtain ⟨o1, ⟨k1, k2⟩, oC, oR⟩ := yR_cond (D := 54) h240 hm (by decide) (by decide) hU
    cases ho : o1.2 with
    | none =>
      refine ⟨(o1.1, none), ⟨k1, fun T S hX => by cases hX⟩, fun P u e he hP hu => ?_, fun Q n c t q0 e he hQ h4 hq0 h5 => ?_⟩
      · obtain ⟨P3, e3, F3, g3, E3, -⟩ := oC P u e (by omega) hP
        refine ⟨P3, ?_, F3, g3, E3, fun T S hX => by cases hX⟩
        rw [if_pos hc]
        unfold ygC
        rw [show zk_sm e m_LawReader_readsCondition [.ref 24, .int 0, .int 0] (zp_M P, n) = _ from e3, zs_cI, Option.bind_some, show yob o1 = 0 by unfold yob; rw [ho], if_pos rfl]
        rfl
      · obtain ⟨Q3, e3, F3, K3, i3, s3⟩ := oR Q n c t e (by omega) hQ
        unfold yqs at s3
        rw [ho] at s3
        obtain ⟨w3, a, c', dv, a1, a2, a3, a0, a4, a5⟩ := s3
        obtain ⟨Q4, e4, F4, K4, w4⟩ := zs_gfail (n := n) (e := e) (q0 := q0) (c0 := c) w3 (by omega) ((F3.1 269 14 (by decide)).trans hQ.2.2.2.2.2.1) hQ.2.2.2.2.2.2.1 a3 (by rw [F3.2.1 274 (by decide)]; exact h4) hq0
        refine ⟨Q4, ?_, yF_t (yF_C F3) F4, yKc_t (Nat.le_refl c) (yKc_q F3 K3) K4, w4, fun T S hX => by cases hX⟩
        rw [if_pos hc, e_R_clause_128, if_neg zi_1n, zp_Rv, Option.bind_some, show zk_sm e m_R_condition [.ref 269] (zp_M Q, n) = _ from e3, zs_cV, Option.bind_some]
        exact e4
    | some T =>
      obtain ⟨b1, b2⟩ := k2 T ho
      obtain ⟨bn, bt⟩ := ytyT_ne b2
      obtain ⟨oG, ⟨g1, g2⟩, gC, gR⟩ := yR_guard (n := n) (L := L) (xs := xs) hB h240 k1
      refine ⟨(oG.1, oG.2.map (fun S => (T, S))), ⟨g1, fun T' S hX => ?_⟩, fun P u e he hP hu => ?_, fun Q n c t q0 e he hQ h4 hq0 h5 => ?_⟩
      · obtain ⟨S', hS, hE⟩ := Option.map_eq_some_iff.mp hX
        cases hE
        obtain ⟨y1, y2⟩ := g2 S hS
        refine ⟨?_, Or.inr bt, y2 [] (by decide)⟩
        unfold yel
        rw [if_neg bn]
        show T.length + S.length + 3 + m ≤ oG.1 + 2
        omega
      · obtain ⟨P3, e3, F3, g3, E3, X3⟩ := oC P u e (by omega) hP
        obtain ⟨x1, x2, x3⟩ := X3 T ho
        obtain ⟨P4, e4, F4, g4, E4, X4⟩ := gC P3 (u + T.length) e (by omega) (yTp_F (by decide) (by decide) F3 hP.1) g3 x1 (by omega) E3
        refine ⟨P4, ?_, yF_t F3 F4, g4, E4, fun T' S hX => ?_⟩
        · rw [if_pos hc]
          unfold ygC
          rw [show zk_sm e m_LawReader_readsCondition [.ref 24, .int 0, .int 0] (zp_M P, n) = _ from e3, zs_cI, Option.bind_some, show yob o1 = 1 by unfold yob; rw [ho], if_neg zi_1n, zp_Yv, Option.bind_some, e4, zs_cI, Option.bind_some]
          cases hz : oG.2 with
          | none => rw [show yob oG = 0 by unfold yob; rw [hz], if_pos rfl]; rfl
          | some S => rw [show yob oG = 1 by unfold yob; rw [hz], if_neg zi_1n]; rfl
        · obtain ⟨S', hS, hE⟩ := Option.map_eq_some_iff.mp hX
          cases hE
          obtain ⟨y1, y2, y3, y4, y5, y6⟩ := X4 S hS
          refine ⟨?_, yen_g bn (ycs_k x2 y6 (Nat.le_refl _)) y2 (by rw [y3]) y4 y5, fun j hj => ?_⟩
          · rw [y1]
            unfold yel
            rw [if_neg bn, show u + (T.length + S.length + 3) = u + T.length + S.length + 3 by omega]
          · rw [y6 j (by omega), x3 j hj]
      · obtain ⟨Q3, e3, F3, K3, i3, s3⟩ := oR Q n c t e (by omega) hQ
        have hcm : c ≤ m := hQ.2.2.2.2.2.2.2.2
        unfold yqs at s3
        rw [ho] at s3
        obtain ⟨a1, a2, a3, a4, a5⟩ := s3
        obtain ⟨Q4, e4, F4, K4, X4⟩ := gR Q3 n c T.length t q0 e (by omega) ⟨yTq_F (by decide) (by decide) F3 hQ.1, a1, k1, a2, a3, (F3.1 269 14 (by decide)).trans hQ.2.2.2.2.2.1, hQ.2.2.2.2.2.2.1, a4, by omega⟩ (by rw [F3.2.1 275 (by decide)]; exact h5) (by rw [F3.2.1 274 (by decide)]; exact h4) hq0
        refine ⟨Q4, ?_, yF_t (yF_C F3) F4, yKc_t (Nat.le_add_right c _) (yKc_q F3 K3) K4, X4 T rfl, fun T' S hX => ?_⟩
        · rw [if_pos hc, e_R_clause_128, if_neg zi_1n, zp_Rv, Option.bind_some, show zk_sm e m_R_condition [.ref 269] (zp_M Q, n) = _ from e3, zs_cV, Option.bind_some]
          exact e4
        · have h := X4 T rfl
          unfold yqc at h
          obtain ⟨S', hS, hE⟩ := Option.map_eq_some_iff.mp hX
          cases hE
          rw [hS] at h
          exact yps_a (yps_k a5 K4.1 (Nat.le_refl _)) h.2.2.2.2.2.2.2.2.2
  · obtain ⟨o1, ⟨k1, k2⟩, oC, oR⟩ := yRx_d (yR_sums (n := n) (L := L) (xs := xs) hB h240 (len + 1) m 0 (by omega) hm (by decide))
    cases ho : o1.2 with
    | none =>
      refine ⟨(o1.1, none), ⟨k1, fun T S hX => by cases hX⟩, fun P u e he hP hu => ?_, fun Q n c t q0 e he hQ h4 hq0 h5 => ?_⟩
      · obtain ⟨P3, e3, F3, g3, E3, -⟩ := oC P u e (by omega) hP
        refine ⟨P3, ?_, F3, g3, E3, fun T S hX => by cases hX⟩
        rw [if_neg hc]
        unfold ysC
        rw [show zk_sm e m_LawReader_readsSum [.ref 24, .int 0] (zp_M P, n) = _ from e3, zs_cI, Option.bind_some, show yob o1 = 0 by unfold yob; rw [ho], if_pos rfl]
        rfl
      · obtain ⟨Q3, e3, F3, K3, i3, s3⟩ := oR Q n c t e (by omega) hQ
        unfold yqs at s3
        rw [ho] at s3
        obtain ⟨w3, a, c', dv, a1, a2, a3, a0, a4, a5⟩ := s3
        have ee := zs_166 (n := n) (e := e) (i2 := 0) (q0 := q0) ((F3.1 269 14 (by decide)).trans hQ.2.2.2.2.2.1) hQ.2.2.2.2.2.2.1 a3 (by rw [F3.2.1 274 (by decide)]; exact h4) hq0
        refine ⟨zp_sA (zp_sA (zp_sA Q3 276 (140 * t + q0) (Q3.2.1 275 (140 * t + q0))) 277 (140 * t + q0) (zi c')) 274 t (zi (q0 + 1)), ?_, yF_t (yF_C F3) (yF_t (yF_A (by decide)) (yF_t (yF_A (by decide)) (yF_A (by decide)))), yKc_t (Nat.le_refl c) (yKc_q F3 K3) (yKc_t (Nat.le_refl _) yKc_6 (yKc_t (Nat.le_refl _) yKc_7 yKc_4)), w3, fun T S hX => by cases hX⟩
        rw [if_neg hc, e_R_clause_128, if_pos rfl, zp_Rv, Option.bind_some, show zk_sm e m_R_sum [.ref 269] (zp_M Q, n) = _ from e3, zs_cV, Option.bind_some, zp_R4', Option.bind_some, w3, if_neg (zi_n1 (by omega))]
        exact ee
    | some Y =>
      obtain ⟨b1, b2⟩ := k2 Y ho
      have sg2 := @ysk_ge B len o1.1
      have sl2 := ysk_le (B := B) k1
      -- the class at the sign behind the sum
      have CC : ∀ (P : zp) (u e : Nat), 60 ≤ e → yc0 n L xs B len m u P → ∃ P3, yc0 n L xs B len (ysk B len o1.1) (u + Y.length) P3 ∧ yF yfP [25] P P3 ∧ ycs P3 u Y ∧ (∀ j, j < u → P3.2.1 25 j = P.2.1 25 j) ∧ ysC e (zp_M P, n) = (bif ycq (yhb B len (ysk B len o1.1)) then ygC e (zk_sm e m_LawReader_readsCondition [.ref 24, .int 0, .int 1] (zp_M P3, n)) else (zk_cV (zk_sm e m_LawReader_emit [.ref 24, .int (-59)] (zp_M P3, n))).bind fun t15 => (some (some (Value.int 1), t15) : Option zk_R)) := by
        intro P u e he hP
        have hum : u ≤ m := hP.2.2.2.2.1
        obtain ⟨P3, e3, F3, g3, E3, X3⟩ := oC P u e (by omega) hP
        obtain ⟨x1, x2, x3⟩ := X3 Y ho
        have T3 := yTp_F (by decide) (by decide) F3 hP.1
        obtain ⟨P4, e4, g4, f4⟩ := zs_sign (d := e) (n := n) T3 g3 k1
        refine ⟨P4, ⟨yTp_F (by decide) (by decide) f4 T3, g4, sl2, (f4.1 24 1 (by decide)).trans x1, by omega, zk_sm_k e4 E3⟩, yF_t F3 (yF_p1 f4), fun j o hj => by rw [f4.2.1 25 (by decide)]; exact x2 j o hj, fun j hj => by rw [f4.2.1 25 (by decide), x3 j hj], ?_⟩
        unfold ysC
        rw [show zk_sm e m_LawReader_readsSum [.ref 24, .int 0] (zp_M P, n) = _ from e3, zs_cI, Option.bind_some, show yob o1 = 1 by unfold yob; rw [ho], if_neg zi_1n, zp_Y2, Option.bind_some, zp_Pv', Option.bind_some, e4, zs_cI, Option.bind_some, zs_isC, zs_cI, Option.bind_some, zp_ib, zp_Yv, Option.bind_some, Option.bind_some]
      have RR : ∀ (Q : zp) (n : Nat × Nat) (c t q0 e : Nat), 60 ≤ e → yq0 B len m c 0 t Q → Q.2.1 274 t = zi q0 → q0 < 140 → Q.2.1 275 (140 * t + q0) = zi c → ∃ Q3, yq0 B len (ysk B len o1.1) (c + Y.length) 0 t Q3 ∧ yF yfQ ykQ Q Q3 ∧ yKp t c Q Q3 ∧ yps Q3 t c Y ∧ zk_sf (e + 1) m_R_clause 128 [.ref 269, .int (zi (140 * t + q0)), .retAddr 0] [.int 0] (zp_M Q, n) = (bif ycq (yhb B len (ysk B len o1.1)) then (zk_rv (zp_M Q3, n) 269 12).bind fun _ => (zk_cV (zk_sm e m_R_compare [.ref 269] (zp_M Q3, n))).bind fun t5 => (zk_rv t5 269 12).bind fun _ => (zk_cV (zk_sm e m_R_goOnAnd [.ref 269] t5)).bind fun t6 => (zk_rv t6 269 12).bind fun _ => (zk_cV (zk_sm e m_R_goOnOr [.ref 269] t6)).bind fun t7 => ygR e (zi (140 * t + q0)) t7 else zk_sf (e + 1) m_R_clause 166 [.ref 269, .int (zi (140 * t + q0)), .int 0] [] (zp_M Q3, n)) := by
        intro Q n c t q0 e he hQ h4 hq0 h5
        have hcm : c ≤ m := hQ.2.2.2.2.2.2.2.2
        obtain ⟨e', rfl⟩ : ∃ e', e = e' + 1 := ⟨e - 1, by omega⟩
        obtain ⟨Q3, e3, F3, K3, i3, s3⟩ := oR Q n c t (e' + 1) (by omega) hQ
        unfold yqs at s3
        rw [ho] at s3
        obtain ⟨a1, a2, a3, a4, a5⟩ := s3
        have T3 := yTq_F (by decide) (by decide) F3 hQ.1
        obtain ⟨Q4, e4, g4, f4⟩ := zs_Rlook (d := e') (n := n) T3 a1 (by omega)
        refine ⟨Q4, ⟨yTq_F (by decide) (by decide) f4 T3, g4, sl2, (f4.1 269 4 (by decide)).trans a2, (f4.1 269 5 (by decide)).trans a3, ((f4.1 269 14 (by decide)).trans (F3.1 269 14 (by decide))).trans hQ.2.2.2.2.2.1, hQ.2.2.2.2.2.2.1, by rw [f4.2.1 273 (by decide)]; exact a4, by omega⟩, yF_t F3 (yF_q3 f4), yKp_t (Nat.le_refl c) K3 (yKp_f f4), yps_k a5 (yKp_f f4) (Nat.le_refl _), ?_⟩
        rw [e_R_clause_128, if_pos rfl, zp_Rv, Option.bind_some, show zk_sm (e' + 1) m_R_sum [.ref 269] (zp_M Q, n) = _ from e3, zs_cV, Option.bind_some, zp_R4', Option.bind_some, a2, if_pos rfl, zp_Rv, Option.bind_some, e4, zs_cI, Option.bind_some, zs_RisSign, zs_cI, Option.bind_some, zp_ib]
        rfl
      cases hq : ycq (yhb B len (ysk B len o1.1)) with
      | false =>
        refine ⟨(ysk B len o1.1, some ([], Y)), ⟨sl2, fun T S hX => ?_⟩, fun P u e he hP hu => ?_, fun Q n c t q0 e he hQ h4 hq0 h5 => ?_⟩
        · cases hX
          refine ⟨?_, Or.inl rfl, b2 [] (by decide)⟩
          show (if ([] : List (Nat × Nat)) = [] then Y.length + 1 else _) + m ≤ ysk B len o1.1 + 2
          rw [if_pos rfl]
          omega
        · have hum : u ≤ m := hP.2.2.2.2.1
          obtain ⟨P3, hP3, F3, x2, x3, ea⟩ := CC P u e he hP
          obtain ⟨e', rfl⟩ : ∃ e', e = e' + 1 := ⟨e - 1, by omega⟩
          have ee := zs_emit (d := e') (n := n) (x := -59) hP3.2.2.2.1 (by omega)
          refine ⟨yem P3 (u + Y.length) (-59), ?_, yF_t F3 yem_F, by rw [yem_m]; exact hP3.2.1, zk_sm_k ee hP3.2.2.2.2.2, fun T S hX => ?_⟩
          · rw [if_neg hc, ea, hq, cond_false, ee, zs_cV, Option.bind_some]
            rfl
          · cases hX
            refine ⟨?_, yen_n (ycs_k x2 (fun j hj => yem_8 (show j ≠ u + Y.length by omega)) (Nat.le_refl _)) yem_9, fun j hj => by rw [yem_8 (by omega), x3 j hj]⟩
            rw [yem_u]
            show _ = zi (u + (if ([] : List (Nat × Nat)) = [] then Y.length + 1 else _))
            rw [if_pos rfl, Nat.add_assoc]
        · obtain ⟨Q3, hQ3, F3, K3, a5, ea⟩ := RR Q n c t q0 e he hQ h4 hq0 h5
          obtain ⟨z1, z2, z3, z4, z5, z6, z7, z8, z9⟩ := hQ3
          have h5' : Q3.2.1 275 (140 * t + q0) = zi c := by rw [F3.2.1 275 (by decide)]; exact h5
          have ee := zs_166 (n := n) (e := e) (i2 := 0) (q0 := q0) z6 z7 z8 (by rw [F3.2.1 274 (by decide)]; exact h4) hq0
          rw [h5'] at ee
          refine ⟨zp_sA (zp_sA (zp_sA Q3 276 (140 * t + q0) (zi c)) 277 (140 * t + q0) (zi (c + Y.length))) 274 t (zi (q0 + 1)), ?_, yF_t (yF_C F3) (yF_t (yF_A (by decide)) (yF_t (yF_A (by decide)) (yF_A (by decide)))), yKc_t (Nat.le_refl c) (yKc_q F3 K3) (yKc_t (Nat.le_refl _) yKc_6 (yKc_t (Nat.le_refl _) yKc_7 yKc_4)), ⟨z2, z4, z5, z6, ?_, zp_a9, ?_, ?_, ?_, ?_⟩, fun T S hX => ?_⟩
          · rw [if_neg hc, ea, hq, cond_false]
            exact ee
          · rw [zp_a7 (by decide), zp_a7 (by decide), zp_a7 (by decide)]; exact z8
          · rw [zp_a7 (by decide), zp_a7 (by decide), zp_a7 (by decide)]; exact h5'
          · rw [zp_a7 (by decide), zp_a7 (by decide), zp_a9]; rfl
          · rw [zp_a7 (by decide), zp_a9]; rfl
          · intro j o hj
            rw [zp_a7 (show 271 ≠ 274 by decide), zp_a7 (show 271 ≠ 277 by decide), zp_a7 (show 271 ≠ 276 by decide), zp_a7 (show 272 ≠ 274 by decide), zp_a7 (show 272 ≠ 277 by decide), zp_a7 (show 272 ≠ 276 by decide)]
            exact a5 j o hj
          · cases hX
            intro j o hj
            rw [zp_a7 (show 271 ≠ 274 by decide), zp_a7 (show 271 ≠ 277 by decide), zp_a7 (show 271 ≠ 276 by decide), zp_a7 (show 272 ≠ 274 by decide), zp_a7 (show 272 ≠ 277 by decide), zp_a7 (show 272 ≠ 276 by decide)]
            exact a5 j o hj
      | true =>
        obtain ⟨o2, ⟨c1, c2⟩, o2C, o2R⟩ := yR_condg (n := n) (L := L) (xs := xs) (D := 54) (sr := 1) (h := fun e s => zk_sm e m_R_compare [.ref 269] s) (ty1 := ytyLC (2 * 0 + 2)) (ty2 := ytyLC (2 * 0 + 1)) (ty := ytyLC (2 * 0)) h240 sl2 (show 0 ≤ 6 by decide) (by decide) (fun m' h1 h2 => hU m' (by omega) h2) (yRx_D (yR_unit1 h240 sl2 (by decide) ysk_2 (fun m' h1 h2 => yR_sums hB h240 (len + 1) m' 0 (by omega) h2 (by decide))) (by decide)) (fun X Y x y ts hts => by rw [yty_a, x ts (by omega), Option.bind_some, y ts hts]) (fun X Y x y ts hts => by rw [yty_a, x ts (by omega), Option.bind_some, y ts hts])
        cases ho2 : o2.2 with
        | none =>
          refine ⟨(o2.1, none), ⟨c1, fun T S hX => by cases hX⟩, fun P u e he hP hu => ?_, fun Q n c t q0 e he hQ h4 hq0 h5 => ?_⟩
          · obtain ⟨P3, hP3, F3, x2, x3, ea⟩ := CC P u e he hP
            obtain ⟨P4, e4, F4, g4, E4, -⟩ := o2C P3 (u + Y.length) e (by omega) hP3
            refine ⟨P4, ?_, yF_t F3 F4, g4, E4, fun T S hX => by cases hX⟩
            rw [if_neg hc, ea, hq, cond_true]
            unfold ygC
            rw [show zk_sm e m_LawReader_readsCondition [.ref 24, .int 0, .int 1] (zp_M P3, n) = _ from e4, zs_cI, Option.bind_some, show yob o2 = 0 by unfold yob; rw [ho2], if_pos rfl]
            rfl
          · obtain ⟨Q3, hQ3, F3, K3, a5, ea⟩ := RR Q n c t q0 e he hQ h4 hq0 h5
            obtain ⟨Q4, e4, F4, K4, i4, s4⟩ := o2R Q3 n (c + Y.length) t e (by omega) hQ3
            unfold yqs at s4
            rw [ho2] at s4
            obtain ⟨w4, a, c', dv, b1', b2', b3, b0, b4, b5⟩ := s4
            obtain ⟨Q5, e5, F5, K5, w5⟩ := zs_gfail (n := n) (e := e) (q0 := q0) (c0 := c) w4 (by omega) ((F4.1 269 14 (by decide)).trans hQ3.2.2.2.2.2.1) hQ3.2.2.2.2.2.2.1 b3 (by rw [F4.2.1 274 (by decide), F3.2.1 274 (by decide)]; exact h4) hq0
            refine ⟨Q5, ?_, yF_t (yF_C F3) (yF_t (yF_C F4) F5), yKc_t (Nat.le_refl c) (yKc_q F3 K3) (yKc_t (Nat.le_refl c) ⟨yKp_t (Nat.le_add_right c _) yKp_r K4, (yKc_q F4 K4).2⟩ K5), w5, fun T S hX => by cases hX⟩
            have hb : ((zk_cV (yrO (fun e s => zk_sm e m_R_compare [.ref 269] s) e (zp_M Q3, n))).bind fun t7 => ygR e (zi (140 * t + q0)) t7) = some (none, (zp_M Q5, n)) := by rw [e4, zs_cV, Option.bind_some, e5]
            rw [yrO_b, yrT_b] at hb
            rw [if_neg hc, ea, hq, cond_true, zp_Rv, Option.bind_some]
            exact hb
        | some Z =>
          obtain ⟨d1, d2⟩ := c2 Z ho2
          have dt : yty (Y ++ Z) [] = some [true] := by rw [yty_a, b2 [] (by decide), Option.bind_some, d2 [] (by decide)]
          have dn : Y ++ Z ≠ [] := fun z => by rw [z] at dt; cases dt
          have ll : (Y ++ Z).length = Y.length + Z.length := List.length_append
          obtain ⟨oG, ⟨g1, g2⟩, gC, gR⟩ := yR_guard (n := n) (L := L) (xs := xs) hB h240 c1
          refine ⟨(oG.1, oG.2.map (fun S => (Y ++ Z, S))), ⟨g1, fun T' S hX => ?_⟩, fun P u e he hP hu => ?_, fun Q n c t q0 e he hQ h4 hq0 h5 => ?_⟩
          · obtain ⟨S', hS, hE⟩ := Option.map_eq_some_iff.mp hX
            cases hE
            obtain ⟨y1, y2⟩ := g2 S hS
            refine ⟨?_, Or.inr dt, y2 [] (by decide)⟩
            unfold yel
            rw [if_neg dn, ll]
            show Y.length + Z.length + S.length + 3 + m ≤ oG.1 + 2
            omega
          · obtain ⟨P3, hP3, F3, x2, x3, ea⟩ := CC P u e he hP
            obtain ⟨P4, e4, F4, g4, E4, X4⟩ := o2C P3 (u + Y.length) e (by omega) hP3
            obtain ⟨y1, y2, y3⟩ := X4 Z ho2
            obtain ⟨P5, e5, F5, g5, E5, X5⟩ := gC P4 (u + (Y ++ Z).length) e (by omega) (yTp_F (by decide) (by decide) F4 hP3.1) g4 (by rw [ll, ← Nat.add_assoc]; exact y1) (by rw [ll]; omega) E4
            refine ⟨P5, ?_, yF_t F3 (yF_t F4 F5), g5, E5, fun T' S hX => ?_⟩
            · rw [if_neg hc, ea, hq, cond_true]
              unfold ygC
              rw [show zk_sm e m_LawReader_readsCondition [.ref 24, .int 0, .int 1] (zp_M P3, n) = _ from e4, zs_cI, Option.bind_some, show yob o2 = 1 by unfold yob; rw [ho2], if_neg zi_1n, zp_Yv, Option.bind_some, e5, zs_cI, Option.bind_some]
              cases hz : oG.2 with
              | none => rw [show yob oG = 0 by unfold yob; rw [hz], if_pos rfl]; rfl
              | some S => rw [show yob oG = 1 by unfold yob; rw [hz], if_neg zi_1n]; rfl
            · obtain ⟨S', hS, hE⟩ := Option.map_eq_some_iff.mp hX
              cases hE
              obtain ⟨v1, v2, v3, v4, v5, v6⟩ := X5 S hS
              refine ⟨?_, yen_g dn (ycs_k (ycs_a (ycs_k x2 y3 (Nat.le_refl _)) y2) v6 (Nat.le_refl _)) v2 (by rw [v3]) v4 v5, fun j hj => ?_⟩
              · rw [v1]
                unfold yel
                rw [if_neg dn, show u + ((Y ++ Z).length + S.length + 3) = u + (Y ++ Z).length + S.length + 3 by omega]
              · rw [v6 j (by omega), y3 j (by omega), x3 j hj]
          · have hcm : c ≤ m := hQ.2.2.2.2.2.2.2.2
            obtain ⟨Q3, hQ3, F3, K3, a5, ea⟩ := RR Q n c t q0 e he hQ h4 hq0 h5
            obtain ⟨Q4, e4, F4, K4, i4, s4⟩ := o2R Q3 n (c + Y.length) t e (by omega) hQ3
            unfold yqs at s4
            rw [ho2] at s4
            obtain ⟨b1', b2', b3, b4, b5⟩ := s4
            have F34 := yF_t F3 F4
            obtain ⟨Q5, e5, F5, K5, X5⟩ := gR Q4 n c (Y ++ Z).length t q0 e (by omega) ⟨yTq_F (by decide) (by decide) F4 hQ3.1, b1', c1, b2', b3, (F4.1 269 14 (by decide)).trans hQ3.2.2.2.2.2.1, hQ3.2.2.2.2.2.2.1, by rw [ll, ← Nat.add_assoc]; exact b4, by rw [ll]; omega⟩ (by rw [F34.2.1 275 (by decide)]; exact h5) (by rw [F34.2.1 274 (by decide)]; exact h4) hq0
            refine ⟨Q5, ?_, yF_t (yF_C F34) F5, yKc_t (Nat.le_add_right c _) (yKc_q F34 (yKp_t (Nat.le_add_right c _) K3 K4)) K5, X5 (Y ++ Z) rfl, fun T' S hX => ?_⟩
            · have hb : ((zk_cV (yrO (fun e s => zk_sm e m_R_compare [.ref 269] s) e (zp_M Q3, n))).bind fun t7 => ygR e (zi (140 * t + q0)) t7) = some (none, (zp_M Q5, n)) := by rw [e4, zs_cV, Option.bind_some, e5]
              rw [yrO_b, yrT_b] at hb
              rw [if_neg hc, ea, hq, cond_true, zp_Rv, Option.bind_some]
              exact hb
            · have h := X5 (Y ++ Z) rfl
              unfold yqc at h
              obtain ⟨S', hS, hE⟩ := Option.map_eq_some_iff.mp hX
              cases hE
              rw [hS] at h
              exact yps_a (yps_k (yps_a (yps_k a5 K4 (Nat.le_refl _)) b5) K5.1 (Nat.le_refl _)) h.2.2.2.2.2.2.2.2.2
end
