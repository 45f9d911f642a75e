/-! CALLS 4: waiting, rests, law -/
def ywt (T : yT) (p q : Nat) (x y : Int32) : Int32 := if y < x then T.2.1 q - y else if x < y then -x else T.2.2.2.1 p / 2 - x
def ywb (T : yT) (p q : Nat) (x y : Int32) : Bool := !(List.range 10).any (fun k => decide (ywt T p q x y < ywt T p q (zi k) y))
/-- the i-th of the first m for which B holds; how many (i NONE) -/
def yth_ (B : Nat → Bool) (i : Int32) : Nat → Nat → Nat → Int32
  | 0, _, c => if i = -1 then zi c else -1
  | j + 1, k, c => if B k = true then (if zi c = i then zi k else yth_ B i j (k + 1) (c + 1)) else yth_ B i j (k + 1) c
section
variable {P : zp} {n : Nat × Nat} {d : Nat} {T : yT}
theorem ywt_C (hT : yTC P T) {p q : Nat} (hp : p < T.1) (hq : q < T.1) {x y : Int32} : zq_waits P (zi p) (zi q) x y = ywt T p q x y := by
  have h6 := hT.2.1
  unfold zq_waits ywt
  rw [(zp_gi (show q < 6 by omega) (by decide)).trans (hT.2.2.1 q hq).1, (zp_gi (show p < 6 by omega) (by decide)).trans (hT.2.2.1 p hp).2.2, Int32.zero_sub]
theorem ywt_R (hT : yTR P T) {p q : Nat} (hp : p < T.1) (hq : q < T.1) {x y : Int32} : zr_wait P p q x y = ywt T p q x y := by
  unfold zr_wait ywt
  rw [(hT.2.2.1 q hq).1, (hT.2.2.1 p hp).2.2]
theorem ywb_C (hT : yTC P T) {p q : Nat} (hp : p < T.1) (hq : q < T.1) {x y : Int32} : zq_wbest P (zi p) (zi q) x y = ywb T p q x y := by
  unfold zq_wbest ywb
  rw [zl_anyc (fun i _ => by rw [ywt_C hT hp hq, ywt_C hT hp hq])]
theorem ywb_R (hT : yTR P T) {p q : Nat} (hp : p < T.1) (hq : q < T.1) {x y : Int32} : zr_rest P p q x y = (ywb T p q x y && ywb T q p y x) := by
  unfold zr_rest ywb
  rw [zl_anyc (g := fun k => decide (ywt T p q x y < ywt T p q (zi k) y) || decide (ywt T q p y x < ywt T q p (zi k) x)) (fun i _ => by rw [ywt_R hT hp hq, ywt_R hT hp hq, ywt_R hT hq hp, ywt_R hT hq hp])]
  rw [← Bool.not_or]
  congr 1
  rw [Bool.eq_iff_iff, Bool.or_eq_true, List.any_eq_true, List.any_eq_true, List.any_eq_true]
  constructor
  · rintro ⟨k, hk, z⟩
    rw [Bool.or_eq_true] at z
    exact z.elim (fun z => Or.inl ⟨k, hk, z⟩) (fun z => Or.inr ⟨k, hk, z⟩)
  · rintro (⟨k, hk, z⟩ | ⟨k, hk, z⟩)
    · exact ⟨k, hk, by rw [z]; rfl⟩
    · exact ⟨k, hk, by rw [z, Bool.or_true]⟩
theorem yc_waiting (hI : yI P n.1) {p q x y w : Int32} : yOK (d + 20) P n m_SaddlerKnows_waiting m_R_waiting [.int p, .int q, .int x, .int y, .int w] := by
  obtain ⟨h0, T, V, nl, L, c0, hP⟩ := id hI
  have hT := hP.1.1
  have hR := hP.1.2.1
  have h6 := hT.2.1
  cases h : ypr T.1 p q with
  | false =>
    refine yOK_q (v := -1000000) (P1 := P) (P2 := P) ?_ ?_ hI
    · rw [e_SaddlerKnows_waiting, zp_Cv, Option.bind_some, yg_pair hT, h, zs_cI, Option.bind_some, zp_ib]; rfl
    · rw [e_R_waiting, zp_Rv, Option.bind_some, yg_Rtwo hR, h, zs_cI, Option.bind_some, zp_ib]; rfl
  | true =>
    obtain ⟨a, c, ha, hc, -, rfl, rfl⟩ := ypr_o h
    have nin : ∀ {z : Int32}, yrg 10 z = false → z < 0 ∨ (¬ z < 0 ∧ 9 < z) := by
      intro z hz
      by_cases q1 : z < 0
      · exact Or.inl q1
      · obtain ⟨k, hk, rfl⟩ := zi_r q1
        have : ¬ k < 10 := fun z => by rw [yrg_i z] at hz; cases hz
        exact Or.inr ⟨q1, (zi_l (i := 9) (by decide) hk).mpr (by omega)⟩
    have hin : ∀ {z : Int32}, yrg 10 z = true → ¬ z < 0 ∧ ¬ 9 < z := by
      intro z hz
      obtain ⟨k, hk, rfl⟩ := yrg_o hz
      exact ⟨zi_n (by omega), zi_9 hk⟩
    by_cases hbad : yrg 10 x = false ∨ yrg 10 y = false ∨ yrg 2 w = false
    · refine yOK_q (v := -1000000) (P1 := P) (P2 := P) ?_ ?_ hI
      · rw [e_SaddlerKnows_waiting, zp_Cv, Option.bind_some, yg_pair hT, h, zs_cI, Option.bind_some, zp_ib, cond_true]
        by_cases w0 : w = 0 ∨ w = 1
        · have hxy : yrg 10 x = false ∨ yrg 10 y = false := by
            rcases hbad with z | z | z
            · exact Or.inl z
            · exact Or.inr z
            · rcases w0 with rfl | rfl
              · rw [show yrg 2 0 = true by decide] at z; cases z
              · rw [show yrg 2 1 = true by decide] at z; cases z
          have key : ∀ A : Option zk_R, (if x < 0 then some (some (Value.int (-1000000)), (zp_M P, n)) else if 9 < x then some (some (Value.int (-1000000)), (zp_M P, n)) else if y < 0 then some (some (Value.int (-1000000)), (zp_M P, n)) else if 9 < y then some (some (Value.int (-1000000)), (zp_M P, n)) else A) = some (some (Value.int (-1000000)), (zp_M P, n)) := by
            intro A
            by_cases x1 : x < 0
            · rw [if_pos x1]
            rw [if_neg x1]
            by_cases x2 : 9 < x
            · rw [if_pos x2]
            rw [if_neg x2]
            by_cases y1 : y < 0
            · rw [if_pos y1]
            rw [if_neg y1]
            rcases hxy with z | z
            · rcases nin z with z | z
              · exact absurd z x1
              · exact absurd z.2 x2
            · rcases nin z with z | z
              · exact absurd z y1
              · rw [if_pos z.2]
          by_cases w1 : w = 0
          · rw [if_pos w1]; exact key _
          · rw [if_neg w1, if_pos (w0.resolve_left w1)]; exact key _
        · rw [if_neg (fun z => w0 (Or.inl z)), if_neg (fun z => w0 (Or.inr z))]
      · rw [e_R_waiting, zp_Rv, Option.bind_some, yg_Rtwo hR, h, zs_cI, Option.bind_some, zp_ib, cond_true, yg_Rin (m := 10) (by decide) (by decide) (by decide), zs_cI, Option.bind_some, zp_ib]
        cases hx : yrg 10 x with
        | false => rfl
        | true =>
          rw [cond_true, yg_Rin (m := 10) (by decide) (by decide) (by decide), zs_cI, Option.bind_some, zp_ib]
          cases hy : yrg 10 y with
          | false => rfl
          | true =>
            rw [cond_true, yg_Rin (m := 2) (by decide) (by decide) (by decide), zs_cI, Option.bind_some, zp_ib]
            cases hw : yrg 2 w with
            | false => rfl
            | true => rw [hx, hy, hw] at hbad; exact absurd hbad (by decide)
    · have hx : yrg 10 x = true := by
        cases z : yrg 10 x with
        | true => rfl
        | false => exact absurd (Or.inl z) hbad
      have hy : yrg 10 y = true := by
        cases z : yrg 10 y with
        | true => rfl
        | false => exact absurd (Or.inr (Or.inl z)) hbad
      have hw : yrg 2 w = true := by
        cases z : yrg 2 w with
        | true => rfl
        | false => exact absurd (Or.inr (Or.inr z)) hbad
      obtain ⟨x1, x2⟩ := hin hx
      obtain ⟨y1, y2⟩ := hin hy
      obtain ⟨j, hj, rfl⟩ := yrg_o hw
      have hj : j = 0 ∨ j = 1 := by omega
      rcases hj with rfl | rfl
      · refine yOK_q (v := ywt T a c x y) (P1 := P) (P2 := P) ?_ ?_ hI
        · rw [e_SaddlerKnows_waiting, zp_Cv, Option.bind_some, yg_pair hT, h, zs_cI, Option.bind_some, zp_ib, cond_true, if_pos (by decide), if_neg x1, if_neg x2, if_neg y1, if_neg y2, if_pos (by decide), zp_C3, Option.bind_some, zp_Tv, Option.bind_some, zs_waitsFor, zs_cI, Option.bind_some, ywt_C hT ha hc]
        · rw [e_R_waiting, zp_Rv, Option.bind_some, yg_Rtwo hR, h, zs_cI, Option.bind_some, zp_ib, cond_true, yg_Rin (m := 10) (by decide) (by decide) (by decide), hx, zs_cI, Option.bind_some, zp_ib, cond_true, yg_Rin (m := 10) (by decide) (by decide) (by decide), hy, zs_cI, Option.bind_some, zp_ib, cond_true, yg_Rin (m := 2) (by decide) (by decide) (by decide), hw, zs_cI, Option.bind_some, zp_ib, cond_true, if_pos (by decide), zp_Rv, Option.bind_some, zs_RwaitOf (by omega) (by omega), zs_cI, Option.bind_some, ywt_R hR ha hc]
      · refine yOK_q (v := ywt T c a y x) (P1 := P) (P2 := P) ?_ ?_ hI
        · rw [e_SaddlerKnows_waiting, zp_Cv, Option.bind_some, yg_pair hT, h, zs_cI, Option.bind_some, zp_ib, cond_true, if_neg (by decide), if_pos (by decide), if_neg x1, if_neg x2, if_neg y1, if_neg y2, if_neg (by decide), zp_C3, Option.bind_some, zp_Tv, Option.bind_some, zs_waitsFor, zs_cI, Option.bind_some, ywt_C hT hc ha]
        · rw [e_R_waiting, zp_Rv, Option.bind_some, yg_Rtwo hR, h, zs_cI, Option.bind_some, zp_ib, cond_true, yg_Rin (m := 10) (by decide) (by decide) (by decide), hx, zs_cI, Option.bind_some, zp_ib, cond_true, yg_Rin (m := 10) (by decide) (by decide) (by decide), hy, zs_cI, Option.bind_some, zp_ib, cond_true, yg_Rin (m := 2) (by decide) (by decide) (by decide), hw, zs_cI, Option.bind_some, zp_ib, cond_true, if_neg (by decide), zp_Rv, Option.bind_some, zs_RwaitOf (by omega) (by omega), zs_cI, Option.bind_some, ywt_R hR hc ha]
/-- 10 x + y rests -/
def yrt_ (T : yT) (p q : Nat) (k : Nat) : Bool := ywb T p q (zi (k / 10)) (zi (k % 10)) && ywb T q p (zi (k % 10)) (zi (k / 10))
theorem zi_div {a b : Nat} (ha : a < 2 ^ 31) (hb : b < 2 ^ 31) : zi a / zi b = zi (a / b) := (Int32.ofNat_div ha hb).symm
theorem zi_md10 {k : Nat} (h : k < 2 ^ 31) : zi k - zi k / 10 * 10 = zi (k % 10) := by
  have e1 : zi k / 10 = zi (k / 10) := (Int32.ofNat_div h (by decide : 10 < 2 ^ 31)).symm
  have e2 : zi (k / 10) * 10 = zi (k / 10 * 10) := (Int32.ofNat_mul (k / 10) 10).symm
  rw [e1, e2, zi_sub (by omega)]
  congr 1
  omega
theorem zs_restC (hT : yTC P T) {p q : Nat} {i : Int32} (hp : p < T.1) (hq : q < T.1) : ∀ (j k c : Nat), k + j = 100 → 0 < j → zk_sf (d + 4) m_SaddlerKnows_rests 32 [.ref 12, .int (zi p), .int (zi q), .int i, .int (zi c), .int (zi (k / 10)), .int (zi (k % 10))] [] (zp_M P, n) = some (some (.int (yth_ (yrt_ T p q) i j k c)), (zp_M P, n))
  | 0, _, _, _, h => absurd h (Nat.lt_irrefl _)
  | j + 1, k, c, hk, _ => by
    have hnext : ∀ c', zk_sf (d + 4) m_SaddlerKnows_rests 32 [.ref 12, .int (zi p), .int (zi q), .int i, .int (zi c'), .int (zi (k / 10)), .int (zi (k % 10 + 1))] [] (zp_M P, n) = some (some (.int (yth_ (yrt_ T p q) i j (k + 1) c')), (zp_M P, n)) := by
      intro c'
      by_cases q10 : k % 10 + 1 < 10
      · have e1 : k / 10 = (k + 1) / 10 := by omega
        have e2 : k % 10 + 1 = (k + 1) % 10 := by omega
        rw [e1, e2]
        exact zs_restC hT hp hq j (k + 1) c' (by omega) (by omega)
      · have e10 : k % 10 + 1 = 10 := by omega
        rw [e10, e_SaddlerKnows_rests_32, if_pos zi_9n, zi_s, e_SaddlerKnows_rests_22]
        by_cases qx : k / 10 + 1 < 10
        · rw [if_neg (zi_9 qx)]
          have e1 : k / 10 + 1 = (k + 1) / 10 := by omega
          have e2 : (0 : Int32) = zi ((k + 1) % 10) := by rw [show (k + 1) % 10 = 0 by omega]; rfl
          rw [e1, e2]
          exact zs_restC hT hp hq j (k + 1) c' (by omega) (by omega)
        · have : j = 0 := by omega
          subst this
          rw [show k / 10 + 1 = 10 by omega, if_pos zi_9n]
          show _ = some (some (Value.int (if i = -1 then zi c' else -1)), _)
          by_cases z : i = -1
          · rw [if_pos z, if_pos z]
          · rw [if_neg z, if_neg z]
    rw [e_SaddlerKnows_rests_32, if_neg (zi_9 (by omega)), zp_C3, Option.bind_some, zp_Tv, Option.bind_some, zs_waitsBest, zs_cI, Option.bind_some, zp_ib, zp_C3, Option.bind_some, zp_Tv, Option.bind_some, zs_waitsBest, zs_cI, Option.bind_some, zp_ib, ywb_C hT hp hq, ywb_C hT hq hp, zi_s, zi_s]
    show _ = some (some (Value.int (if yrt_ T p q k = true then (if zi c = i then zi k else yth_ (yrt_ T p q) i j (k + 1) (c + 1)) else yth_ (yrt_ T p q) i j (k + 1) c)), _)
    have hv : yrt_ T p q k = (ywb T p q (zi (k / 10)) (zi (k % 10)) && ywb T q p (zi (k % 10)) (zi (k / 10))) := rfl
    cases h1 : ywb T p q (zi (k / 10)) (zi (k % 10)) with
    | false =>
      rw [hv, h1, Bool.false_and, if_neg (show ¬ false = true by decide)]
      exact hnext c
    | true =>
      rw [cond_true]
      cases h2 : ywb T q p (zi (k % 10)) (zi (k / 10)) with
      | false =>
        rw [hv, h1, h2, Bool.and_false, if_neg (show ¬ false = true by decide)]
        exact hnext c
      | true =>
        rw [hv, h1, h2, Bool.and_true, if_pos (show true = true from rfl), cond_true]
        by_cases z : zi c = i
        · have e : 10 * zi (k / 10) + zi (k % 10) = zi k := by
            show Int32.ofNat 10 * Int32.ofNat _ + Int32.ofNat _ = Int32.ofNat k
            rw [← Int32.ofNat_mul, ← Int32.ofNat_add]
            congr 1
            omega
          rw [if_pos z, if_pos z, e]
        · rw [if_neg z, if_neg z]
          exact hnext (c + 1)
theorem zs_restR (hT : yTR P T) {p q : Nat} {i : Int32} (hp : p < T.1) (hq : q < T.1) : ∀ (j k c : Nat), k + j = 100 → zk_sf (d + 4) m_R_rests 22 [.ref 269, .int (zi p), .int (zi q), .int i, .int (zi c), .int (zi k)] [] (zp_M P, n) = some (some (.int (yth_ (yrt_ T p q) i j k c)), (zp_M P, n))
  | 0, k, c, hk => by
    rw [e_R_rests_22, if_neg (show ¬ zi k < 100 from fun z => absurd ((zi_l (m := 100) (by omega) (by decide)).mp z) (by omega))]
    show _ = some (some (Value.int (if i = -1 then zi c else -1)), _)
    by_cases z : i = -1
    · rw [if_pos z, if_pos z]
    · rw [if_neg z, if_neg z]
  | j + 1, k, c, hk => by
    have h6 := hT.2.1
    have e1 : zi k / 10 = zi (k / 10) := zi_div (b := 10) (by omega) (by decide)
    rw [e_R_rests_22, if_pos (show zi k < 100 from (zi_l (m := 100) (by omega) (by decide)).mpr (by omega)), zp_Rv, Option.bind_some, zi_md10 (by omega), e1, zs_RisRest (by omega) (by omega), zs_cI, Option.bind_some, zp_ib, ywb_R hT hp hq, zi_s, zi_s]
    show (bif yrt_ T p q k then _ else _) = some (some (Value.int (if yrt_ T p q k = true then (if zi c = i then zi k else yth_ (yrt_ T p q) i j (k + 1) (c + 1)) else yth_ (yrt_ T p q) i j (k + 1) c)), _)
    cases h1 : yrt_ T p q k with
    | false =>
      rw [if_neg (show ¬ false = true by decide), cond_false]
      exact zs_restR hT hp hq j (k + 1) c (by omega)
    | true =>
      rw [if_pos (show true = true from rfl), cond_true]
      by_cases z : zi c = i
      · rw [if_pos z, if_pos z]
      · rw [if_neg z, if_neg z]
        exact zs_restR hT hp hq j (k + 1) (c + 1) (by omega)
theorem yc_rests (hI : yI P n.1) {p q i : Int32} : yOK (d + 20) P n m_SaddlerKnows_rests m_R_rests [.int p, .int q, .int i] := by
  obtain ⟨h0, T, V, nl, L, c0, hP⟩ := id hI
  have hT := hP.1.1
  have hR := hP.1.2.1
  cases h : ypr T.1 p q with
  | false =>
    refine yOK_q (v := -1) (P1 := P) (P2 := P) ?_ ?_ hI
    · rw [e_SaddlerKnows_rests, zp_Cv, Option.bind_some, yg_pair hT, h, zs_cI, Option.bind_some, zp_ib]; rfl
    · rw [e_R_rests, zp_Rv, Option.bind_some, yg_Rtwo hR, h, zs_cI, Option.bind_some, zp_ib]; rfl
  | true =>
    obtain ⟨a, c, ha, hc, -, rfl, rfl⟩ := ypr_o h
    by_cases qi : i < -1
    · refine yOK_q (v := -1) (P1 := P) (P2 := P) ?_ ?_ hI
      · rw [e_SaddlerKnows_rests, zp_Cv, Option.bind_some, yg_pair hT, h, zs_cI, Option.bind_some, zp_ib, cond_true, if_pos qi]
      · rw [e_R_rests, zp_Rv, Option.bind_some, yg_Rtwo hR, h, zs_cI, Option.bind_some, zp_ib, cond_true, if_pos qi]
    · refine yOK_q (v := yth_ (yrt_ T a c) i 100 0 0) (P1 := P) (P2 := P) ?_ ?_ hI
      · rw [e_SaddlerKnows_rests, zp_Cv, Option.bind_some, yg_pair hT, h, zs_cI, Option.bind_some, zp_ib, cond_true, if_neg qi, e_SaddlerKnows_rests_22, if_neg (by decide)]
        exact zs_restC (d := d + 16) hT ha hc 100 0 0 rfl (by decide)
      · rw [e_R_rests, zp_Rv, Option.bind_some, yg_Rtwo hR, h, zs_cI, Option.bind_some, zp_ib, cond_true, if_neg qi]
        exact zs_restR (d := d + 16) hR ha hc 100 0 0 rfl
theorem zp_L3p {x : Int32} : zk_pf (zp_M P, n) 33 4 3 (.int x) = some (zp_M (zp_sF P 33 3 x), n) := zp_pI (by decide +kernel)
theorem zp_R29p {x : Int32} : zk_pf (zp_M P, n) 269 12 29 (.int x) = some (zp_M (zp_sF P 269 29 x), n) := zp_pI (by decide +kernel)
/-- another law holds on both sides -/
theorem yI_law (h0 : 300 ≤ n.1) {V : yV} {nl : Nat} {L : Nat → Nat × Nat × Nat} {c0 : Int32} {x : Int32} (hP : yP P n.1 T V nl L c0) {W : Int32 → Int32 → Int32 → Int32 → Int32 → Int32 → Int32} (hC : yWC (zp_sF (zp_sF P 33 3 x) 269 29 x) W) (hR : yWR (zp_sF (zp_sF P 33 3 x) 269 29 x) W) (hx : ∀ nw, P.1 33 2 = zi nw → nw ≤ 4 → x = -1 ∨ ∃ i, i < nw ∧ x = zi i) : yI (zp_sF (zp_sF P 33 3 x) 269 29 x) n.1 := by
  obtain ⟨⟨⟨j1, j2, j3, j4, j5⟩, ⟨r1, r2, r3, r4, r5⟩, hX, hM, hN, ⟨nw, q1, q2, q3, q4, q5, q6⟩⟩, hA, hK⟩ := hP
  have f : yF [(33, 3), (269, 29)] [] P (zp_sF (zp_sF P 33 3 x) 269 29 x) := yF_t (yF_f (by decide)) (yF_f (by decide))
  refine ⟨h0, (T.1, T.2.1, T.2.2.1, T.2.2.2.1, T.2.2.2.2.1, W), V, nl, L, c0, ⟨⟨(f.1 26 2 (by decide)).trans j1, j2, j3, (f.1 26 0 (by decide)).trans j4, hC⟩, ⟨(f.1 269 25 (by decide)).trans r1, r2, r3, r4, hR⟩, hX, hM, hN, ⟨nw, q1, (f.1 33 2 (by decide)).trans q2, (f.1 269 13 (by decide)).trans q3, q4, ?_, ?_⟩⟩, yA_F (by decide) (by decide) f hA, yK_F (by decide) (by decide) f hK⟩
  · exact ((zp_f8 (by decide)).trans zp_f9).trans zp_f9.symm
  · have e : (zp_sF (zp_sF P 33 3 x) 269 29 x).1 33 3 = x := (zp_f8 (by decide)).trans zp_f9
    rw [e]
    exact hx nw q2 q1
theorem yc_law (hI : yI P n.1) {x : Int32} : yOK (d + 20) P n m_SaddlerKnows_law m_R_law [.int x] := by
  obtain ⟨h0, T, V, nl, L, c0, hP⟩ := id hI
  obtain ⟨nw, q1, q2, q3, q4, q5, q6⟩ := id hP.1.2.2.2.2.2
  have hin : zr_in x (-1) (P.1 269 13 - 1) = (decide (x = -1) || yrg nw x) := by
    rw [q3]
    unfold zr_in
    by_cases e : x = -1
    · subst e
      have h1 : ¬ zi nw - 1 < -1 := by
        rcases Nat.eq_zero_or_pos nw with z | z
        · subst z; decide
        · rw [zi_d z]
          intro w
          have := Int32.lt_iff_toInt_lt.mp w
          have h2 : (zi (nw - 1)).toInt = ((nw - 1 : Nat) : Int) := Int32.toInt_ofNat_small (by omega)
          have h3 : (-1 : Int32).toInt = -1 := by decide
          omega
      rw [decide_eq_false h1]; rfl
    · by_cases q : x < 0
      · have h1 : x < -1 := by
          have a1 := Int32.lt_iff_toInt_lt.mp q
          have h3 : (-1 : Int32).toInt = -1 := by decide
          have h4 : (0 : Int32).toInt = 0 := by decide
          refine Int32.lt_iff_toInt_lt.mpr ?_
          have h5 : x.toInt ≠ -1 := fun z => e (Int32.toInt_inj.mp (z.trans h3.symm))
          omega
        rw [decide_eq_true h1, decide_eq_false e, yrg_e (by omega), decide_eq_true q]; rfl
      · have h1 : ¬ x < -1 := fun z => q (Int32.lt_trans z (by decide))
        have h2 := yrg_in (m := nw) (x := x) (y := zi nw - 1) (by omega) (Int32.sub_add_cancel _ _) (fun z => by rw [z]; decide)
        unfold zr_in at h2
        rw [decide_eq_false q] at h2
        rw [decide_eq_false h1, decide_eq_false e, h2]; rfl
  have hRr : ∀ (P' : zp), P'.1 269 13 = P.1 269 13 → zk_sm (d + 20) m_R_law [.ref 269, .int x] (zp_M P', n) = bif (decide (x = -1) || yrg nw x) then some (some (.int 1), (zp_M (zp_sF P' 269 29 x), n)) else some (some (.int 0), (zp_M P', n)) := by
    intro P' hP'
    rw [e_R_law, zp_R13, Option.bind_some, hP', zs_Rin, zs_cI, Option.bind_some, zp_ib, hin, zp_R29p, Option.bind_some]
  by_cases e : x = -1
  · subst e
    refine yOK_q (v := 1) (P1 := zp_sF P 33 3 (-1)) (P2 := zp_sF (zp_sF P 33 3 (-1)) 269 29 (-1)) ?_ ?_ (yI_law h0 hP (W := yW0) (Or.inl ⟨(zp_f8 (by decide)).trans zp_f9, rfl⟩) (Or.inl ⟨zp_f9, rfl⟩) (fun _ _ _ => Or.inl rfl))
    · rw [e_SaddlerKnows_law, if_pos rfl, zp_C4, Option.bind_some, zp_L3p, Option.bind_some]
    · rw [hRr _ (zp_f8 (by decide))]; rfl
  · cases h : yrg nw x with
    | false =>
      refine yOK_q (v := 0) (P1 := P) (P2 := P) ?_ ?_ hI
      · rw [e_SaddlerKnows_law, if_neg e]
        by_cases q : x < 0
        · rw [if_pos q]
        · rw [yrg_e (by omega), decide_eq_false q] at h
          rw [if_neg q, zp_C4, Option.bind_some, zp_L2, Option.bind_some, q2, if_neg (of_decide_eq_false h)]
      · rw [hRr _ rfl, h, decide_eq_false e]; rfl
    | true =>
      obtain ⟨i, hi, rfl⟩ := yrg_o h
      obtain ⟨la, X, a1, a2, a3, a4, a5⟩ := q4 i hi
      refine yOK_q (v := 1) (P1 := zp_sF P 33 3 (zi i)) (P2 := zp_sF (zp_sF P 33 3 (zi i)) 269 29 (zi i)) ?_ ?_ (yI_law h0 hP (W := yW X) (Or.inr ⟨i, la, X, by omega, (zp_f8 (by decide)).trans zp_f9, a1, a3, a5, rfl⟩) (Or.inr ⟨i, X, by omega, zp_f9, a4, a5, rfl⟩) (fun nw' e1 e2 => Or.inr ⟨i, ?_, rfl⟩))
      · rw [e_SaddlerKnows_law, if_neg e, if_neg (zi_n (by omega)), zp_C4, Option.bind_some, zp_L2, Option.bind_some, q2, if_pos ((zi_l (by omega) (by omega)).mpr hi), Option.bind_some, zp_L3p, Option.bind_some]
      · rw [hRr _ (zp_f8 (by decide)), h, Bool.or_true]; rfl
      · have := (zi_eq (by omega) (by omega)).mp (q2.symm.trans e1)
        omega
end
