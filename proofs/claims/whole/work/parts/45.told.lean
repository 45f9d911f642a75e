/-! SPECS 4: numbers; what is told -/
def zq_abs (x : Int32) : Int32 := if x < 0 then -x else x
def zq_max (x y : Int32) : Int32 := if x < y then y else x
def zq_min (x y : Int32) : Int32 := if y < x then y else x
theorem zs_abs {d : Nat} {x : Int32} {s : zk_S} : zk_sm d m_Math_abs [.int x] s = some (some (.int (zq_abs x)), s) := by
  rw [e_Math_abs]
  unfold zq_abs
  by_cases h : x < 0
  · rw [if_pos h, if_pos h]
  · rw [if_neg h, if_neg h]
theorem zs_max {d : Nat} {x y : Int32} {s : zk_S} : zk_sm d m_Math_max_II [.int x, .int y] s = some (some (.int (zq_max x y)), s) := by
  rw [e_Math_max_II]
  unfold zq_max
  by_cases h : x < y
  · rw [if_pos h, if_pos h]
  · rw [if_neg h, if_neg h]
theorem zs_min {d : Nat} {x y : Int32} {s : zk_S} : zk_sm d m_Math_min_II [.int x, .int y] s = some (some (.int (zq_min x y)), s) := by
  rw [e_Math_min_II]
  unfold zq_min
  by_cases h : y < x
  · rw [if_pos h, if_pos h]
  · rw [if_neg h, if_neg h]
/-- how many bits: the same on both sides -/
noncomputable def zq_bits (x : Int32) : Int32 := match zk_sm 0 m_Integer_bitCount [.int x] (zk_M0 0 (fun _ => 0), 12, 0) with
  | some (some (.int y), _) => y
  | _ => 0
theorem zs_bitCount {d : Nat} {x : Int32} {s : zk_S} : zk_sm d m_Integer_bitCount [.int x] s = some (some (.int (zq_bits x)), s) := by
  unfold zq_bits
  rw [e_Integer_bitCount, e_Integer_bitCount]
section
variable {P : zp} {n : Nat × Nat} {b d : Nat}
theorem zs_saddleCount (h : zp_sb b) : zk_sm (d + 3) m_Stand_saddleCount [.ref b] (zp_M P, n) = some (some (.int (zq_bits (zq_places P b))), (zp_M P, n)) := by
  rw [e_Stand_saddleCount, zp_sv h, Option.bind_some, zs_saddlePlaces h, zs_cI, Option.bind_some, zs_bitCount, zs_cI, Option.bind_some]
theorem zp_a27 : zp_ad 27 = (0, 6) := by decide +kernel
theorem zp_a28 : zp_ad 28 = (0, 6) := by decide +kernel
theorem zp_a29 : zp_ad 29 = (0, 6) := by decide +kernel
theorem zs_limitOf {p : Int32} : zk_sm (d + 1) m_Told_limitOf [.ref 26, .int p] (zp_M P, n) = some (some (.int (30 - 2 * zp_gt P 29 6 p)), (zp_M P, n)) := by
  rw [e_Told_limitOf, (zp_gR (by decide +kernel) : zk_gR (zp_M P, n) 26 10 6 = some 29), Option.bind_some, zs_at zp_a29 (by decide), zs_cI, Option.bind_some]
def zq_waits (P : zp) (p q x y : Int32) : Int32 := if y < x then zp_gt P 27 6 q - y else if x < y then 0 - x else zp_gt P 29 6 p / 2 - x
theorem zs_waitsFor {p q x y : Int32} : zk_sm (d + 1) m_Told_waitsFor [.ref 26, .int p, .int q, .int x, .int y] (zp_M P, n) = some (some (.int (zq_waits P p q x y)), (zp_M P, n)) := by
  rw [e_Told_waitsFor, (zp_gR (by decide +kernel) : zk_gR (zp_M P, n) 26 10 4 = some 27), Option.bind_some, zs_at zp_a27 (by decide), zs_cI, Option.bind_some, (zp_gR (by decide +kernel) : zk_gR (zp_M P, n) 26 10 6 = some 29), Option.bind_some, zs_at zp_a29 (by decide), zs_cI, Option.bind_some]
  unfold zq_waits
  by_cases h1 : y < x
  · rw [if_pos h1, if_pos h1]
  · rw [if_neg h1, if_neg h1]
    by_cases h2 : x < y
    · rw [if_pos h2, if_pos h2]
    · rw [if_neg h2, if_neg h2]
theorem zi_9 {i : Nat} (h : i < 10) : ¬ (9 : Int32) < zi i := fun z => absurd ((zi_l (i := 9) (m := i) (by decide) (by omega)).mp z) (by omega)
theorem zi_9n : (9 : Int32) < zi 10 := by decide
def zq_wbest (P : zp) (p q x y : Int32) : Bool := !(List.range 10).any (fun k => decide (zq_waits P p q x y < zq_waits P p q (zi k) y))
theorem zs_waitsBest {p q x y : Int32} : zk_sm (d + 2) m_Told_waitsBest [.ref 26, .int p, .int q, .int x, .int y] (zp_M P, n) = some (some (.int (zp_b (zq_wbest P p q x y))), (zp_M P, n)) := by
  have hv : zk_rv (zp_M P, n) 26 10 = some () := zp_rv (by decide +kernel)
  rw [e_Told_waitsBest, hv, Option.bind_some, zs_waitsFor, zs_cI, Option.bind_some]
  have key := zl_any (L := fun i => zk_sf (d + 2) m_Told_waitsBest 14 [.ref 26, .int p, .int q, .int x, .int y, .int (zq_waits P p q x y), .int (zi i)] [] (zp_M P, n)) (f := fun k => decide (zq_waits P p q x y < zq_waits P p q (zi k) y)) (r1 := ((some (.int 0), (zp_M P, n)) : zk_R)) (r0 := (some (.int 1), (zp_M P, n))) (m := 10) (fun i hi => ?_) ?_
  · refine key.trans ?_
    unfold zq_wbest
    cases (List.range 10).any (fun k => decide (zq_waits P p q x y < zq_waits P p q (zi k) y)) <;> rfl
  · show zk_sf (d + 2) m_Told_waitsBest 14 [.ref 26, .int p, .int q, .int x, .int y, .int (zq_waits P p q x y), .int (zi i)] [] (zp_M P, n) = _
    rw [e_Told_waitsBest_14, if_neg (zi_9 hi), hv, Option.bind_some, zs_waitsFor, zs_cI, Option.bind_some, zi_s]
    by_cases h3 : zq_waits P p q x y < zq_waits P p q (zi i) y
    · rw [if_pos h3, decide_eq_true h3]; rfl
    · rw [if_neg h3, decide_eq_false h3]; rfl
  · show zk_sf (d + 2) m_Told_waitsBest 14 [.ref 26, .int p, .int q, .int x, .int y, .int (zq_waits P p q x y), .int (zi 10)] [] (zp_M P, n) = _
    rw [e_Told_waitsBest_14, if_pos zi_9n]
end
