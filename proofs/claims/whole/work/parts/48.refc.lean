/-! SPECS 7: the reference's persons -/
section
variable {P : zp} {n : Nat × Nat} {d : Nat}
theorem zp_a284 : zp_ad 284 = (0, 18) := by decide +kernel
theorem zp_R23 : zk_gR (zp_M P, n) 269 12 23 = some 284 := zp_gR (by decide +kernel)
theorem zi_3 (i k : Nat) : 3 * zi i + zi k = zi (3 * i + k) := by
  show Int32.ofNat 3 * Int32.ofNat i + Int32.ofNat k = Int32.ofNat (3 * i + k)
  rw [← Int32.ofNat_mul, ← Int32.ofNat_add]
theorem zs_RofPerson {i k : Nat} (h : 3 * i + k < 18) {x : Int32} (hx : x = zi k) : zk_sm d m_R_ofPerson [.ref 269, .int (zi i), .int x] (zp_M P, n) = some (some (.int (P.2.1 284 (3 * i + k))), (zp_M P, n)) := by
  subst hx
  rw [e_R_ofPerson, zp_R23, Option.bind_some, zi_3, zp_ldi zp_a284 h (by decide), Option.bind_some]
theorem zs_RlimitOf {i : Nat} (h : i < 6) : zk_sm (d + 1) m_R_limitOf [.ref 269, .int (zi i)] (zp_M P, n) = some (some (.int (30 - 2 * P.2.1 284 (3 * i + 2))), (zp_M P, n)) := by
  rw [e_R_limitOf, zp_Rv, Option.bind_some, zs_RofPerson (x := 2) (k := 2) (by omega) rfl, zs_cI, Option.bind_some]
def zr_wait (P : zp) (p q : Nat) (x y : Int32) : Int32 := if y < x then P.2.1 284 (3 * q + 0) - y else if x < y then -x else P.2.1 284 (3 * p + 2) / 2 - x
theorem zs_RwaitOf {p q : Nat} (hp : p < 6) (hq : q < 6) {x y : Int32} : zk_sm (d + 1) m_R_waitOf [.ref 269, .int (zi p), .int (zi q), .int x, .int y] (zp_M P, n) = some (some (.int (zr_wait P p q x y)), (zp_M P, n)) := by
  rw [e_R_waitOf, zp_Rv, Option.bind_some, zs_RofPerson (x := 0) (k := 0) (by omega) rfl, zs_cI, Option.bind_some, Option.bind_some, zs_RofPerson (x := 2) (k := 2) (by omega) rfl, zs_cI, Option.bind_some]
  unfold zr_wait
  by_cases h1 : y < x
  · rw [if_pos h1, if_pos h1]
  · rw [if_neg h1, if_neg h1]
    by_cases h2 : x < y
    · rw [if_pos h2, if_pos h2]
    · rw [if_neg h2, if_neg h2]
def zr_rest (P : zp) (p q : Nat) (x y : Int32) : Bool := !(List.range 10).any (fun k => decide (zr_wait P p q x y < zr_wait P p q (zi k) y) || decide (zr_wait P q p y x < zr_wait P q p (zi k) x))
theorem zs_RisRest {p q : Nat} (hp : p < 6) (hq : q < 6) {x y : Int32} : zk_sm (d + 2) m_R_isRest [.ref 269, .int (zi p), .int (zi q), .int x, .int y] (zp_M P, n) = some (some (.int (zp_b (zr_rest P p q x y))), (zp_M P, n)) := by
  rw [e_R_isRest]
  have key := zl_any (L := fun i => zk_sf (d + 2) m_R_isRest 3 [.ref 269, .int (zi p), .int (zi q), .int x, .int y, .int (zi i)] [] (zp_M P, n)) (f := fun k => decide (zr_wait P p q x y < zr_wait P p q (zi k) y) || decide (zr_wait P q p y x < zr_wait P q p (zi k) x)) (r1 := ((some (.int 0), (zp_M P, n)) : zk_R)) (r0 := (some (.int 1), (zp_M P, n))) (m := 10) (fun i hi => ?_) ?_
  · refine key.trans ?_
    unfold zr_rest
    cases (List.range 10).any (fun k => decide (zr_wait P p q x y < zr_wait P p q (zi k) y) || decide (zr_wait P q p y x < zr_wait P q p (zi k) x)) <;> rfl
  · show zk_sf (d + 2) m_R_isRest 3 [.ref 269, .int (zi p), .int (zi q), .int x, .int y, .int (zi i)] [] (zp_M P, n) = _
    rw [e_R_isRest_3, if_neg (zi_9 hi), zp_Rv, Option.bind_some, zs_RwaitOf hp hq, zs_cI, Option.bind_some, zp_Rv, Option.bind_some, zs_RwaitOf hp hq, zs_cI, Option.bind_some, zp_Rv, Option.bind_some, zs_RwaitOf hq hp, zs_cI, Option.bind_some, zp_Rv, Option.bind_some, zs_RwaitOf hq hp, zs_cI, Option.bind_some, zi_s]
    by_cases h3 : zr_wait P p q x y < zr_wait P p q (zi i) y
    · rw [if_pos h3, decide_eq_true h3]; rfl
    · rw [if_neg h3, decide_eq_false h3]
      by_cases h4 : zr_wait P q p y x < zr_wait P q p (zi i) x
      · rw [if_pos h4, decide_eq_true h4]; rfl
      · rw [if_neg h4, decide_eq_false h4]; rfl
  · show zk_sf (d + 2) m_R_isRest 3 [.ref 269, .int (zi p), .int (zi q), .int x, .int y, .int (zi 10)] [] (zp_M P, n) = _
    rw [e_R_isRest_3, if_pos zi_9n]
end
