/-! CALLS 17: seats -/
def ywn (T : yT) (V : yV) (r q : Nat) : Nat := (yp T r q (ybf T V r q) (V.2.1 q) V.2.2.2).toInt.toNat
theorem ywn_b {T : yT} {V : yV} {r q : Nat} : ywn T V r q ≤ 30 := by
  unfold ywn
  obtain ⟨b1, b2⟩ := @yp_b T r q (ybf T V r q) V.2.2.2 (V.2.1 q)
  omega
theorem ywn_e {T : yT} {V : yV} {r q : Nat} : yp T r q (ybf T V r q) (V.2.1 q) V.2.2.2 = zi (ywn T V r q) := by
  unfold ywn
  obtain ⟨b1, b2⟩ := @yp_b T r q (ybf T V r q) V.2.2.2 (V.2.1 q)
  apply Int32.toInt_inj.mp
  rw [show (zi (yp T r q (ybf T V r q) (V.2.1 q) V.2.2.2).toInt.toNat).toInt = ((yp T r q (ybf T V r q) (V.2.1 q) V.2.2.2).toInt.toNat : Int) from Int32.toInt_ofNat_small (by omega)]
  omega
def yst3 (P : zp) : Option (Nat × Nat) → Prop
  | none => P.1 269 40 = -1
  | some (c, s) => c < 1000000 ∧ s ≤ 180 ∧ P.1 269 40 = zi c ∧ P.1 269 41 = zi s
def yst4 (P : zp) : Option (Nat × Nat) → Prop
  | none => P.1 266 3 = -1 ∧ P.1 266 4 = -1
  | some (c, s) => c < 1000000 ∧ s ≤ 180 ∧ P.1 266 3 = zi c ∧ P.1 266 4 = zi s
abbrev yr40 : List (Nat × Nat) := [(269, 40), (269, 41)]
abbrev yc66 : List (Nat × Nat) := [(266, 3), (266, 4)]
section
variable {P : zp} {n : Nat × Nat} {d : Nat} {V : yV} {T : yT}
theorem zp_R40 : zk_gI (zp_M P, n) 269 12 40 = some (P.1 269 40) := zp_gI (by decide +kernel)
theorem zp_R41 : zk_gI (zp_M P, n) 269 12 41 = some (P.1 269 41) := zp_gI (by decide +kernel)
theorem zp_R40p {x : Int32} : zk_pf (zp_M P, n) 269 12 40 (.int x) = some (zp_M (zp_sF P 269 40 x), n) := zp_pI (by decide +kernel)
theorem zp_R41p {x : Int32} : zk_pf (zp_M P, n) 269 12 41 (.int x) = some (zp_M (zp_sF P 269 41 x), n) := zp_pI (by decide +kernel)
theorem zp_K0 : zk_gR (zp_M P, n) 266 5 0 = some 26 := zp_gR (by decide +kernel)
theorem zp_K1 : zk_gR (zp_M P, n) 266 5 1 = some 33 := zp_gR (by decide +kernel)
theorem zp_K2 : zk_gR (zp_M P, n) 266 5 2 = some 267 := zp_gR (by decide +kernel)
theorem zp_K3 : zk_gI (zp_M P, n) 266 5 3 = some (P.1 266 3) := zp_gI (by decide +kernel)
theorem zp_K4 : zk_gI (zp_M P, n) 266 5 4 = some (P.1 266 4) := zp_gI (by decide +kernel)
theorem zp_K3p {x : Int32} : zk_pf (zp_M P, n) 266 5 3 (.int x) = some (zp_M (zp_sF P 266 3 x), n) := zp_pI (by decide +kernel)
theorem zp_K4p {x : Int32} : zk_pf (zp_M P, n) 266 5 4 (.int x) = some (zp_M (zp_sF P 266 4 x), n) := zp_pI (by decide +kernel)
theorem zp_Kv : zk_rv (zp_M P, n) 266 5 = some () := zp_rv (by decide +kernel)
theorem zp_C9 : zk_gR (zp_M P, n) 12 11 9 = some 266 := zp_gR (by decide +kernel)
theorem zp_a267 : zp_ad 267 = (0, 36) := by decide +kernel
theorem zp_TT2 : zk_gI (zp_M P, n) 26 10 2 = some (P.1 26 2) := zp_gI (by decide +kernel)
theorem yst3_F {P' : zp} {st : Option (Nat × Nat)} {ks : List Nat} {fs : List (Nat × Nat)} (hf : (269, 40) ∉ fs ∧ (269, 41) ∉ fs) (f : yF fs ks P P') (h : yst3 P st) : yst3 P' st := by
  unfold yst3 at h ⊢
  rw [f.1 269 40 hf.1, f.1 269 41 hf.2]; exact h
theorem zi_10c (c q : Nat) : 10 * zi c + zi q = zi (10 * c + q) := by
  show Int32.ofNat 10 * Int32.ofNat c + Int32.ofNat q = _
  rw [← Int32.ofNat_mul, ← Int32.ofNat_add]
theorem zi_add (a b : Nat) : zi a + zi b = zi (a + b) := (Int32.ofNat_add a b).symm
theorem yp10 {i c : Nat} (hi : i ≤ 6) (hc : c < 10 ^ i) : c < 1000000 := Nat.lt_of_lt_of_le hc (Nat.pow_le_pow_right (by decide) hi : 10 ^ i ≤ 10 ^ 6)
theorem zs_Rtry (hO : yO T.1 V) (h6 : T.1 ≤ 6) : ∀ (m i : Nat) (u : Int32) (c s : Nat) (st : Option (Nat × Nat)) (P : zp), i + m = T.1 → yTR P T → yR (P.2.1 286) V → c < 10 ^ i → s ≤ 30 * i → yst3 P st → ∃ P', zk_sm (d + m + 8) m_R_trySeats [.ref 269, .int (zi i), .int u, .int (zi c), .int (zi s)] (zp_M P, n) = some (none, (zp_M P', n)) ∧ yst3 P' (yrS T.1 (ywn T V) m i u c s st) ∧ yF yr40 [278, 279] P P'
  | 0, i, u, c, s, st, P, hi, hT, hR, hc, hs, h => by
    have hi : i = T.1 := hi
    have hc6 := yp10 (by omega) hc
    have leaf : yst3 (zp_sF (zp_sF P 269 40 (zi c)) 269 41 (zi s)) (some (c, s)) := ⟨hc6, by omega, (zp_f8 (by decide)).trans zp_f9, zp_f9⟩
    have fl : yF yr40 [278, 279] P (zp_sF (zp_sF P 269 40 (zi c)) 269 41 (zi s)) := yF_t (yF_f (by decide)) (yF_f (by decide))
    have hs0 : zk_sm (d + 0 + 8) m_R_trySeats [.ref 269, .int (zi i), .int u, .int (zi c), .int (zi s)] (zp_M P, n) = _ := e_R_trySeats (d + 7) 269 (zi i) u (zi c) (zi s) (zp_M P, n)
    rw [zp_R25, Option.bind_some, hT.1, if_pos (by rw [hi]), zp_R40, Option.bind_some] at hs0
    cases st with
    | none =>
      rw [if_pos (show P.1 269 40 = -1 from h), zp_R40p, Option.bind_some, zp_R41p, Option.bind_some] at hs0
      exact ⟨_, hs0, leaf, fl⟩
    | some y =>
      obtain ⟨c', s'⟩ := y
      obtain ⟨h1, h2, h3, h4⟩ := h
      rw [h3, if_neg (zi_n1 (by omega)), zp_R41, Option.bind_some, h4] at hs0
      by_cases z : s < s'
      · rw [if_pos ((zi_l (by omega) (by omega)).mpr z), zp_R40p, Option.bind_some, zp_R41p, Option.bind_some] at hs0
        refine ⟨_, hs0, ?_, fl⟩
        show yst3 _ (if s < s' then some (c, s) else some (c', s'))
        rw [if_pos z]; exact leaf
      · rw [if_neg (fun w => z ((zi_l (by omega) (by omega)).mp w))] at hs0
        refine ⟨P, hs0, ?_, yF_r⟩
        show yst3 P (if s < s' then some (c, s) else some (c', s'))
        rw [if_neg z]; exact ⟨h1, h2, h3, h4⟩
  | m + 1, i, u, c, s, st, P, hi, hT, hR, hc, hs, h => by
    have hs0 : zk_sm (d + (m + 1) + 8) m_R_trySeats [.ref 269, .int (zi i), .int u, .int (zi c), .int (zi s)] (zp_M P, n) = _ := e_R_trySeats (d + m + 8) 269 (zi i) u (zi c) (zi s) (zp_M P, n)
    rw [zp_R25, Option.bind_some, hT.1, if_neg (fun z => by have := (zi_eq (by omega) (by omega)).mp z; omega)] at hs0
    rw [hs0]
    refine zl_ind (m := T.1) (L := fun q (a : zp) => zk_sf (d + m + 9) m_R_trySeats 40 [.ref 269, .int (zi i), .int u, .int (zi c), .int (zi s), .int (zi q)] [] (zp_M a, n)) (I := fun q a => yst3 a ((List.range q).foldl (fun st q => if q = i ∨ yb_t u q = true then st else yrS T.1 (ywn T V) m (i + 1) (yu1 u q) (10 * c + q) (s + ywn T V i q) st) st) ∧ yF yr40 [278, 279] P a) (Q := fun r => ∃ P', r = some (none, (zp_M P', n)) ∧ yst3 P' (yrS T.1 (ywn T V) (m + 1) i u c s st) ∧ yF yr40 [278, 279] P P') (fun q a hq hI => Or.inr ?_) (fun a hI => ?_) (a := P) ⟨h, yF_r⟩
    · obtain ⟨ha, fa⟩ := hI
      have Ta : yTR a T := yTR_F (by decide) fa hT
      have Ra : yR (a.2.1 286) V := by rw [fa.2.1 286 (by decide)]; exact hR
      show ∃ a', zk_sf (d + m + 9) m_R_trySeats 40 [.ref 269, .int (zi i), .int u, .int (zi c), .int (zi s), .int (zi q)] [] (zp_M a, n) = _ ∧ yst3 a' _ ∧ _
      rw [e_R_trySeats_40, zp_R25, Option.bind_some, Ta.1, if_pos ((zi_l (by omega) (by omega)).mpr hq), zi_s, zl_rs]
      by_cases q1 : q = i
      · refine ⟨a, ?_, by rw [if_pos (Or.inl q1)]; exact ha, fa⟩
        rw [if_pos (by rw [q1])]
      · rw [if_neg (fun z => q1 ((zi_eq (by omega) (by omega)).mp z)), zs_Rhas, zs_cI, Option.bind_some, zp_ib, yb_has (by omega)]
        cases hb : yb_t u q with
        | true => exact ⟨a, by rw [cond_true], by rw [if_pos (Or.inr rfl)]; exact ha, fa⟩
        | false =>
          obtain ⟨P1, e1, f1⟩ := zs_RbestFit (d := d + m + 1) (n := n) Ta Ra (Nat.lt_of_le_of_lt hO.2 (by decide)) (r := i) (q := q) (by omega) hq
          have T1 := yTR_0 f1 Ta
          have R1 := yR_0 f1 Ra
          obtain ⟨P2, e2, f2⟩ := zs_RpinchBy (d := d + m + 2) (n := n) T1 R1 (Nat.lt_of_le_of_lt hO.2 (by decide)) (r := i) (q := q) (f := ybf T V i q) (by omega) hq
          have T2 := yTR_0 f2 T1
          have R2 := yR_0 f2 R1
          have w30 := @ywn_b T V i q
          obtain ⟨P3, e3, h3, f3⟩ := zs_Rtry hO h6 m (i + 1) (yu1 u q) (10 * c + q) (s + ywn T V i q) _ P2 (by omega) T2 R2 (by rw [Nat.pow_succ]; omega) (by omega) (yst3_F (by decide) f2 (yst3_F (by decide) f1 ha))
          refine ⟨P3, ?_, by rw [if_neg (fun z => by rcases z with z | z; exact q1 z; cases z)]; exact h3, yF_t fa (yF_t (yF_m f1 (fun _ h => by cases h) (fun _ h => h)) (yF_t (yF_m f2 (fun _ h => by cases h) (fun _ h => h)) f3))⟩
          rw [cond_false, zp_Rv, Option.bind_some, show zk_sm (d + m + 8) m_R_bestFit [.ref 269, .int (zi i), .int (zi q)] (zp_M a, n) = _ from e1, zs_cI, Option.bind_some, zp_Rv, Option.bind_some, show zk_sm (d + m + 8) m_R_pinchBy [.ref 269, .int (zi i), .int (zi q), .int (zi (ybf T V i q))] (zp_M P1, n) = _ from e2, zs_cI, Option.bind_some, zp_Rv, Option.bind_some, ywn_e, zi_10c, zi_add, zi_s, show zk_sm (d + m + 8) m_R_trySeats [.ref 269, .int (zi (i + 1)), .int (u ||| (1 <<< (zi q &&& 31))), .int (zi (10 * c + q)), .int (zi (s + ywn T V i q))] (zp_M P2, n) = _ from e3, zs_cV, Option.bind_some]
    · obtain ⟨ha, fa⟩ := hI
      have Ta : yTR a T := yTR_F (by decide) fa hT
      refine ⟨a, ?_, ha, fa⟩
      show zk_sf (d + m + 9) m_R_trySeats 40 [.ref 269, .int (zi i), .int u, .int (zi c), .int (zi s), .int (zi T.1)] [] (zp_M a, n) = _
      rw [e_R_trySeats_40, zp_R25, Option.bind_some, Ta.1, if_neg (fun z => absurd ((zi_l (by omega) (by omega)).mp z) (Nat.lt_irrefl _))]
def ytb (P : zp) (T : yT) (V : yV) : Prop := ∀ r q, r < T.1 → q < T.1 → r ≠ q → P.2.1 267 (6 * r + q) = zi (ywn T V r q)
theorem zs_seatFrom (h6 : T.1 ≤ 6) : ∀ (m i : Nat) (u : Int32) (c s : Nat) (st : Option (Nat × Nat)) (P : zp), i + m = T.1 → P.1 26 2 = zi T.1 → ytb P T V → c < 10 ^ i → s ≤ 30 * i → yst4 P st → ∃ P', zk_sm (d + m + 1) m_Seating_seatFrom [.ref 266, .int (zi i), .int u, .int (zi c), .int (zi s)] (zp_M P, n) = some (none, (zp_M P', n)) ∧ yst4 P' (ycS T.1 (ywn T V) m i u c s st) ∧ yF yc66 [] P P'
  | 0, i, u, c, s, st, P, hi, hT, hR, hc, hs, h => by
    have hi : i = T.1 := hi
    have hc6 := yp10 (by omega) hc
    have leaf : yst4 (zp_sF (zp_sF P 266 3 (zi c)) 266 4 (zi s)) (some (c, s)) := ⟨hc6, by omega, (zp_f8 (by decide)).trans zp_f9, zp_f9⟩
    have fl : yF yc66 [] P (zp_sF (zp_sF P 266 3 (zi c)) 266 4 (zi s)) := yF_t (yF_f (by decide)) (yF_f (by decide))
    have ni : ¬ zi i < zi T.1 := fun z => by have := (zi_l (by omega) (by omega)).mp z; omega
    have hs0 : zk_sm (d + 0 + 1) m_Seating_seatFrom [.ref 266, .int (zi i), .int u, .int (zi c), .int (zi s)] (zp_M P, n) = _ := e_Seating_seatFrom d 266 (zi i) u (zi c) (zi s) (zp_M P, n)
    rw [zp_K4, Option.bind_some] at hs0
    cases st with
    | none =>
      rw [if_pos (show P.1 266 4 = -1 from h.2), zp_K0, Option.bind_some, zp_TT2, Option.bind_some, hT, if_neg ni, zp_K3p, Option.bind_some, zp_K4p, Option.bind_some] at hs0
      exact ⟨_, hs0, leaf, fl⟩
    | some y =>
      obtain ⟨c', s'⟩ := y
      obtain ⟨h1, h2, h3, h4⟩ := h
      rw [h4, if_neg (zi_n1 (by omega)), Option.bind_some] at hs0
      by_cases z : s < s'
      · rw [if_pos ((zi_l (by omega) (by omega)).mpr z), zp_K0, Option.bind_some, zp_TT2, Option.bind_some, hT, if_neg ni, zp_K3p, Option.bind_some, zp_K4p, Option.bind_some] at hs0
        refine ⟨_, hs0, ?_, fl⟩
        show yst4 _ (if s < s' then some (c, s) else some (c', s'))
        rw [if_pos z]; exact leaf
      · rw [if_neg (fun w => z ((zi_l (by omega) (by omega)).mp w))] at hs0
        refine ⟨P, hs0, ?_, yF_r⟩
        show yst4 P (if s < s' then some (c, s) else some (c', s'))
        rw [if_neg z]; exact ⟨h1, h2, h3, h4⟩
  | m + 1, i, u, c, s, st, P, hi, hT, hR, hc, hs, h => by
    have hs0 : zk_sm (d + (m + 1) + 1) m_Seating_seatFrom [.ref 266, .int (zi i), .int u, .int (zi c), .int (zi s)] (zp_M P, n) = _ := e_Seating_seatFrom (d + m + 1) 266 (zi i) u (zi c) (zi s) (zp_M P, n)
    have yi : zi i < zi T.1 := (zi_l (by omega) (by omega)).mpr (by omega)
    have loop : ∀ v : Value, ∃ P', zk_sf (d + m + 2) m_Seating_seatFrom 44 [.ref 266, .int (zi i), .int u, .int (zi c), .int (zi s), .int 0, v] [] (zp_M P, n) = some (none, (zp_M P', n)) ∧ yst4 P' ((List.range T.1).foldl (fun st q => if q = i ∨ yb_t u q = true then st else ycS T.1 (ywn T V) m (i + 1) (yu1 u q) (10 * c + q) (s + ywn T V i q) st) st) ∧ yF yc66 [] P P' := by
      intro v
      refine zl_ind (m := T.1) (L := fun q (a : zp × Value) => zk_sf (d + m + 2) m_Seating_seatFrom 44 [.ref 266, .int (zi i), .int u, .int (zi c), .int (zi s), .int (zi q), a.2] [] (zp_M a.1, n)) (I := fun q a => yst4 a.1 ((List.range q).foldl (fun st q => if q = i ∨ yb_t u q = true then st else ycS T.1 (ywn T V) m (i + 1) (yu1 u q) (10 * c + q) (s + ywn T V i q) st) st) ∧ yF yc66 [] P a.1) (Q := fun r => ∃ P', r = some (none, (zp_M P', n)) ∧ yst4 P' ((List.range T.1).foldl (fun st q => if q = i ∨ yb_t u q = true then st else ycS T.1 (ywn T V) m (i + 1) (yu1 u q) (10 * c + q) (s + ywn T V i q) st) st) ∧ yF yc66 [] P P') (fun q a hq hI => Or.inr ?_) (fun a hI => ?_) (a := (P, v)) ⟨h, yF_r⟩
      · obtain ⟨a, v⟩ := a
        obtain ⟨ha, fa⟩ := hI
        have ha : yst4 a _ := ha
        have fa : yF yc66 [] P a := fa
        have Ta : a.1 26 2 = zi T.1 := (fa.1 26 2 (by decide)).trans hT
        have Ra : ytb a T V := fun r q' hr hq' hn => by rw [fa.2.1 267 (by decide)]; exact hR r q' hr hq' hn
        show ∃ a' : zp × Value, zk_sf (d + m + 2) m_Seating_seatFrom 44 [.ref 266, .int (zi i), .int u, .int (zi c), .int (zi s), .int (zi q), v] [] (zp_M a, n) = _ ∧ yst4 a'.1 _ ∧ _
        rw [e_Seating_seatFrom_44, zp_K0, Option.bind_some, zp_TT2, Option.bind_some, Ta, if_pos ((zi_l (by omega) (by omega)).mpr hq), zi_s, zl_rs]
        by_cases q1 : q = i
        · refine ⟨(a, v), ?_, by rw [if_pos (Or.inl q1)]; exact ha, fa⟩
          rw [if_pos (by rw [q1])]
        · rw [if_neg (fun z => q1 ((zi_eq (by omega) (by omega)).mp z)), zs_hasBit, zs_cI, Option.bind_some, zp_ib, yb_bit (by omega)]
          cases hb : yb_t u q with
          | true => exact ⟨(a, v), by rw [cond_true], by rw [if_pos (Or.inr rfl)]; exact ha, fa⟩
          | false =>
            have w30 := @ywn_b T V i q
            have e6 : zi i * 6 + zi q = zi (6 * i + q) := by
              show Int32.ofNat i * Int32.ofNat 6 + Int32.ofNat q = _
              rw [← Int32.ofNat_mul, ← Int32.ofNat_add, Nat.mul_comm]
            have e10 : zi c * 10 + zi q = zi (10 * c + q) := by
              show Int32.ofNat c * Int32.ofNat 10 + Int32.ofNat q = _
              rw [← Int32.ofNat_mul, ← Int32.ofNat_add, Nat.mul_comm]
            obtain ⟨P3, e3, h3, f3⟩ := zs_seatFrom h6 m (i + 1) (yu1 u q) (10 * c + q) (s + ywn T V i q) _ a (by omega) Ta Ra (by rw [Nat.pow_succ]; omega) (by omega) ha
            refine ⟨(P3, .int (zi (ywn T V i q))), ?_, by rw [if_neg (fun z => by rcases z with z | z; exact q1 z; cases z)]; exact h3, yF_t fa f3⟩
            rw [cond_false, zp_K2, Option.bind_some, zs_at zp_a267 (by decide), zs_cI, Option.bind_some, e6, zp_gi (show 6 * i + q < 36 by omega) (by decide), Ra i q (by omega) hq (fun z => q1 z.symm), zp_Kv, Option.bind_some, e10, zi_add, zi_s, show zk_sm (d + m + 1) m_Seating_seatFrom [.ref 266, .int (zi (i + 1)), .int (u ||| (1 <<< (zi q &&& 31))), .int (zi (10 * c + q)), .int (zi (s + ywn T V i q))] (zp_M a, n) = _ from e3, zs_cV, Option.bind_some]
      · obtain ⟨a, v⟩ := a
        obtain ⟨ha, fa⟩ := hI
        have Ta : a.1 26 2 = zi T.1 := (fa.1 26 2 (by decide)).trans hT
        refine ⟨a, ?_, ha, fa⟩
        show zk_sf (d + m + 2) m_Seating_seatFrom 44 [.ref 266, .int (zi i), .int u, .int (zi c), .int (zi s), .int (zi T.1), v] [] (zp_M a, n) = _
        rw [e_Seating_seatFrom_44, zp_K0, Option.bind_some, zp_TT2, Option.bind_some, Ta, if_neg (fun z => absurd ((zi_l (by omega) (by omega)).mp z) (Nat.lt_irrefl _))]
    obtain ⟨P', e', h', f'⟩ := loop (.retAddr 0)
    rw [zp_K4, Option.bind_some] at hs0
    cases st with
    | none =>
      rw [if_pos (show P.1 266 4 = -1 from h.2), zp_K0, Option.bind_some, zp_TT2, Option.bind_some, hT, if_pos yi] at hs0
      exact ⟨P', hs0.trans e', h', f'⟩
    | some y =>
      obtain ⟨c', s'⟩ := y
      obtain ⟨h1, h2, h3, h4⟩ := h
      rw [h4, if_neg (zi_n1 (by omega)), Option.bind_some] at hs0
      by_cases z : s < s'
      · rw [if_pos ((zi_l (by omega) (by omega)).mpr z), zp_K0, Option.bind_some, zp_TT2, Option.bind_some, hT, if_pos yi] at hs0
        refine ⟨P', hs0.trans e', ?_, f'⟩
        show yst4 P' (bif decide (s < s') then _ else _)
        rw [decide_eq_true z, cond_true]; exact h'
      · rw [if_neg (fun w => z ((zi_l (by omega) (by omega)).mp w))] at hs0
        refine ⟨P, hs0, ?_, yF_r⟩
        show yst4 P (bif decide (s < s') then _ else _)
        rw [decide_eq_false z, cond_false]; exact ⟨h1, h2, h3, h4⟩
end
