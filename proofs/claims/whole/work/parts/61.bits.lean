/-! SPECS 20: bits (rows of the kit's BITS family); sets told as bits -/
def yb_t (x : Int32) (i : Nat) : Bool := x.toBitVec.getLsbD i
theorem yb_ext {x y : Int32} (h : ∀ i, i < 32 → yb_t x i = yb_t y i) : x = y := Int32.toBitVec_inj.mp (BitVec.eq_of_getLsbD_eq (fun i hi => h i hi))
theorem yb_or (x y : Int32) (i : Nat) : yb_t (x ||| y) i = (yb_t x i || yb_t y i) := by unfold yb_t; rw [Int32.toBitVec_or, BitVec.getLsbD_or]
theorem yb_and (x y : Int32) (i : Nat) : yb_t (x &&& y) i = (yb_t x i && yb_t y i) := by unfold yb_t; rw [Int32.toBitVec_and, BitVec.getLsbD_and]
theorem yb_0 (i : Nat) : yb_t 0 i = false := BitVec.getLsbD_zero
theorem yb_sl : ∀ n, n < 32 → ((zi n &&& 31).toBitVec.smod 32).toNat = n := by decide +kernel
theorem yb_shr (n : Nat) (hn : n < 32) (x : Int32) {i : Nat} (hi : i < 32) : yb_t (x >>> (zi n &&& 31)) i = if n + i < 32 then yb_t x (n + i) else yb_t x 31 := by
  unfold yb_t
  rw [Int32.toBitVec_shiftRight]
  show (x.toBitVec.sshiftRight ((zi n &&& 31).toBitVec.smod 32).toNat).getLsbD i = _
  rw [yb_sl n hn, BitVec.getLsbD_sshiftRight, BitVec.msb_eq_getLsbD_last]
  simp [hi]
theorem yb_1 : ∀ i, i < 32 → yb_t 1 i = decide (i = 0) := by decide +kernel
theorem yb_1s : ∀ q, q < 32 → ∀ p, p < 32 → yb_t (1 <<< (zi q &&& 31)) p = decide (p = q) := by decide +kernel
theorem yb_l (x : Int32) : (x &&& 1 = 1) ↔ yb_t x 0 = true := by
  constructor
  · intro h
    have := congrArg (fun z => yb_t z 0) h
    simp only [yb_and, yb_1 0 (by decide)] at this
    cases h2 : yb_t x 0 with
    | true => rfl
    | false => rw [h2] at this; exact absurd this (by decide)
  · intro h
    refine yb_ext (fun i hi => ?_)
    rw [yb_and, yb_1 i hi]
    by_cases q : i = 0
    · rw [q, h]; rfl
    · rw [decide_eq_false q, Bool.and_false]
theorem yb_has {x : Int32} {p : Nat} (hp : p < 32) : zr_has x (zi p) = yb_t x p := by
  have e : yb_t (x >>> (zi p &&& 31)) 0 = yb_t x p := by rw [yb_shr p hp x (by decide), Nat.add_zero, if_pos hp]
  unfold zr_has
  rw [← e, Bool.eq_iff_iff, decide_eq_true_eq]
  exact yb_l _
theorem yb_bit {x : Int32} {p : Nat} (hp : p < 32) : zq_bit x (zi p) = yb_t x p := by
  unfold zq_bit
  rw [decide_eq_false (zi_n (by omega))]
  exact yb_has hp
theorem yb_fold {B : Nat → Bool} {m p : Nat} (hm : m ≤ 32) (hp : p < 32) : yb_t ((List.range m).foldl (fun a i => bif B i then a ||| (1 <<< (zi i &&& 31)) else a) 0) p = (decide (p < m) && B p) := by
  induction m with
  | zero => exact yb_0 p
  | succ m ih =>
    rw [zl_rs]
    have ih := ih (by omega)
    cases hB : B m with
    | false =>
      rw [cond_false, ih]
      by_cases q : p = m
      · rw [q, hB, Bool.and_false, Bool.and_false]
      · rw [show decide (p < m) = decide (p < m + 1) from decide_eq_decide.mpr (by omega)]
    | true =>
      rw [cond_true, yb_or, ih, yb_1s m (by omega) p hp]
      by_cases q : p = m
      · rw [q, hB, decide_eq_true rfl, decide_eq_true (Nat.lt_succ_self m), Bool.or_true]; rfl
      · rw [decide_eq_false q, Bool.or_false, show decide (p < m) = decide (p < m + 1) from decide_eq_decide.mpr (by omega)]
theorem yb_tw {T : yT} {V : yV} {e p : Nat} (h6 : T.1 ≤ 6) (hp : p < T.1) : zr_has (ytw T V e) (zi p) = (yst1 T V e p).2 := by
  rw [yb_has (by omega)]
  have e1 : ytw T V e = (List.range T.1).foldl (fun a i => bif (yst1 T V e i).2 then a ||| (1 <<< (zi i &&& 31)) else a) 0 := zl_fc (fun i a _ => by
    unfold yth1
    cases (yst1 T V e i).2 with
    | true => exact if_pos rfl
    | false => exact if_neg (fun z => by cases z)) 0
  rw [e1, yb_fold (by omega) (by omega), decide_eq_true hp, Bool.true_and]
