/-! SPECS 5: the reference's first rows -/
section
variable {P : zp} {n : Nat × Nat} {d : Nat}
def zr_in (x a c : Int32) : Bool := !decide (x < a) && !decide (c < x)
theorem zs_Rin {x a c : Int32} {s : zk_S} : zk_sm d m_R_in [.int x, .int a, .int c] s = some (some (.int (zp_b (zr_in x a c))), s) := by
  rw [e_R_in]
  unfold zr_in
  by_cases h1 : x < a
  · rw [if_pos h1, decide_eq_true h1]; rfl
  · rw [if_neg h1, decide_eq_false h1]
    by_cases h2 : c < x
    · rw [if_pos h2, decide_eq_true h2]; rfl
    · rw [if_neg h2, decide_eq_false h2]; rfl
def zr_has (bits i : Int32) : Bool := decide ((bits >>> (i &&& 31)) &&& 1 = 1)
theorem zs_Rhas {bits i : Int32} {s : zk_S} : zk_sm d m_R_has [.int bits, .int i] s = some (some (.int (zp_b (zr_has bits i))), s) := by
  rw [e_R_has]
  unfold zr_has
  by_cases h2 : (bits >>> (i &&& 31)) &&& 1 = 1
  · rw [if_pos h2, decide_eq_true h2]; rfl
  · rw [if_neg h2, decide_eq_false h2]; rfl
theorem zp_a286 : zp_ad 286 = (0, 221) := by decide +kernel
theorem zp_R27 : zk_gR (zp_M P, n) 269 12 27 = some 286 := zp_gR (by decide +kernel)
theorem zp_R25 : zk_gI (zp_M P, n) 269 12 25 = some (P.1 269 25) := zp_gI (by decide +kernel)
theorem zp_Rv : zk_rv (zp_M P, n) 269 12 = some () := zp_rv (by decide +kernel)
theorem zi_4 (i k : Nat) : 4 * zi i + zi k = zi (4 * i + k) := by
  show Int32.ofNat 4 * Int32.ofNat i + Int32.ofNat k = Int32.ofNat (4 * i + k)
  rw [← Int32.ofNat_mul, ← Int32.ofNat_add]
theorem zs_Rof {i k : Nat} (h : 4 * i + k < 221) {x : Int32} (hx : x = zi k) : zk_sm d m_R_of [.ref 269, .int (zi i), .int x] (zp_M P, n) = some (some (.int (P.2.1 286 (4 * i + k))), (zp_M P, n)) := by
  subst hx
  rw [e_R_of, zp_R27, Option.bind_some, zi_4, zp_ldi zp_a286 h (by decide), Option.bind_some]
/-- a saddle there, of the reference -/
def zr_th (P : zp) (i : Nat) : Bool := decide (P.2.1 286 (4 * i + 3) = 1)
def zr_on (P : zp) (i : Nat) (p : Int32) : Bool := zr_th P i && decide (P.2.1 286 (4 * i + 1) = p)
theorem zr_in8 {i : Nat} (h : i < 8) : zr_in (zi i) 0 7 = true := by
  unfold zr_in
  rw [decide_eq_false (zi_n (by omega)), decide_eq_false (fun z : (7 : Int32) < zi i => absurd ((zi_l (i := 7) (m := i) (by decide) (by omega)).mp z) (by omega))]
  rfl
theorem zs_RisThere (hp : 0 < P.1 269 25) {i : Nat} (h : i < 8) : zk_sm (d + 1) m_R_isThere [.ref 269, .int (zi i)] (zp_M P, n) = some (some (.int (zp_b (zr_th P i))), (zp_M P, n)) := by
  rw [e_R_isThere, zp_R25, Option.bind_some, if_pos hp, zs_Rin, zs_cI, Option.bind_some, zp_ib, zr_in8 h, zp_Rv, Option.bind_some, zs_Rof (x := 3) (k := 3) (by omega) rfl, zs_cI, Option.bind_some]
  unfold zr_th
  by_cases h3 : P.2.1 286 (4 * i + 3) = 1
  · rw [if_pos h3, decide_eq_true h3]; rfl
  · rw [if_neg h3, decide_eq_false h3]; rfl
theorem zs_RisOn (hp : 0 < P.1 269 25) {i : Nat} {p : Int32} (h : i < 8) : zk_sm (d + 2) m_R_isOn [.ref 269, .int (zi i), .int p] (zp_M P, n) = some (some (.int (zp_b (zr_on P i p))), (zp_M P, n)) := by
  rw [e_R_isOn, zp_Rv, Option.bind_some, zs_RisThere hp h, zs_cI, Option.bind_some, zp_ib, zp_Rv, Option.bind_some, zs_Rof (x := 1) (k := 1) (by omega) rfl, zs_cI, Option.bind_some]
  unfold zr_on
  cases zr_th P i with
  | false => rfl
  | true =>
    by_cases h3 : P.2.1 286 (4 * i + 1) = p
    · rw [if_pos h3, decide_eq_true h3]; rfl
    · rw [if_neg h3, decide_eq_false h3]; rfl
theorem zp_b1 (x : Bool) : zp_b x &&& 1 = zp_b x := by cases x <;> decide
theorem zs_RisPerson {p : Int32} : zk_sm (d + 1) m_R_isPerson [.ref 269, .int p] (zp_M P, n) = some (some (.int (zp_b (zr_in p 0 (P.1 269 25 - 1)))), (zp_M P, n)) := by
  rw [e_R_isPerson, zp_R25, Option.bind_some, zs_Rin, zs_cI, Option.bind_some, zp_b1]
end
