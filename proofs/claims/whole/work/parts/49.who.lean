/-! SPECS 8: the class's persons, fits, refusals -/
section
variable {P : zp} {n : Nat × Nat} {d : Nat}
theorem zp_C3 : zk_gR (zp_M P, n) 12 11 3 = some 26 := zp_gR (by decide +kernel)
theorem zp_C5 : zk_gR (zp_M P, n) 12 11 5 = some 35 := zp_gR (by decide +kernel)
theorem zp_C10 : zk_gR (zp_M P, n) 12 11 10 = some 268 := zp_gR (by decide +kernel)
theorem zp_Cv : zk_rv (zp_M P, n) 12 11 = some () := zp_rv (by decide +kernel)
theorem zp_T2 : zk_gI (zp_M P, n) 26 10 2 = some (P.1 26 2) := zp_gI (by decide +kernel)
theorem zp_T3 : zk_gI (zp_M P, n) 26 10 3 = some (P.1 26 3) := zp_gI (by decide +kernel)
theorem zp_a268 : zp_ad 268 = (0, 5) := by decide +kernel
theorem zs_hasCounty : zk_sm d m_SaddlerKnows_hasCounty [.ref 12] (zp_M P, n) = some (some (.int (zp_b (decide (0 < P.1 26 2)))), (zp_M P, n)) := by
  rw [e_SaddlerKnows_hasCounty, zp_C3, Option.bind_some, zp_T2, Option.bind_some]
  by_cases h : 0 < P.1 26 2
  · rw [if_pos h, decide_eq_true h]; rfl
  · rw [if_neg h, decide_eq_false h]; rfl
def zq_pers (P : zp) (p : Int32) : Bool := !decide (p < 0) && decide (p < P.1 26 2)
theorem zs_isPerson {p : Int32} : zk_sm d m_SaddlerKnows_isPerson [.ref 12, .int p] (zp_M P, n) = some (some (.int (zp_b (zq_pers P p))), (zp_M P, n)) := by
  rw [e_SaddlerKnows_isPerson, zp_C3, Option.bind_some, zp_T2, Option.bind_some]
  unfold zq_pers
  by_cases h1 : p < 0
  · rw [if_pos h1, decide_eq_true h1]; rfl
  · rw [if_neg h1, decide_eq_false h1]
    by_cases h : p < P.1 26 2
    · rw [if_pos h, decide_eq_true h]; rfl
    · rw [if_neg h, decide_eq_false h]; rfl
def zq_pair (P : zp) (p q : Int32) : Bool := zq_pers P p && (zq_pers P q && !decide (p = q))
theorem zs_arePair {p q : Int32} : zk_sm (d + 1) m_SaddlerKnows_arePair [.ref 12, .int p, .int q] (zp_M P, n) = some (some (.int (zp_b (zq_pair P p q))), (zp_M P, n)) := by
  rw [e_SaddlerKnows_arePair, zp_Cv, Option.bind_some, zs_isPerson, zs_cI, Option.bind_some, zp_ib, zp_Cv, Option.bind_some, zs_isPerson, zs_cI, Option.bind_some, zp_ib]
  unfold zq_pair
  cases zq_pers P p with
  | false => rfl
  | true =>
    cases zq_pers P q with
    | false => rfl
    | true =>
      by_cases h : p = q
      · rw [if_pos h, decide_eq_true h]; rfl
      · rw [if_neg h, decide_eq_false h]; rfl
def zq_told (P : zp) (p : Int32) : Bool := !decide (p < 0) && decide (p < P.1 26 3)
theorem zs_isToldSaddle {p : Int32} : zk_sm d m_SaddlerKnows_isToldSaddle [.ref 12, .int p] (zp_M P, n) = some (some (.int (zp_b (zq_told P p))), (zp_M P, n)) := by
  rw [e_SaddlerKnows_isToldSaddle, zp_C3, Option.bind_some, zp_T3, Option.bind_some]
  unfold zq_told
  by_cases h1 : p < 0
  · rw [if_pos h1, decide_eq_true h1]; rfl
  · rw [if_neg h1, decide_eq_false h1]
    by_cases h : p < P.1 26 3
    · rw [if_pos h, decide_eq_true h]; rfl
    · rw [if_neg h, decide_eq_false h]; rfl
def zq_fit (f : Int32) : Bool := !decide (f < 0) && decide (f < 10)
theorem zs_isFit {f : Int32} {s : zk_S} : zk_sm d m_SaddlerKnows_isFit [.int f] s = some (some (.int (zp_b (zq_fit f))), s) := by
  rw [e_SaddlerKnows_isFit]
  unfold zq_fit
  by_cases h1 : f < 0
  · rw [if_pos h1, decide_eq_true h1]; rfl
  · rw [if_neg h1, decide_eq_false h1]
    by_cases h : f < 10
    · rw [if_pos h, decide_eq_true h]; rfl
    · rw [if_neg h, decide_eq_false h]; rfl
theorem zs_loggedWeeks : zk_sm (d + 1) m_SaddlerKnows_loggedWeeks [.ref 12] (zp_M P, n) = some (some (.int (zq_min 60 (P.1 35 5))), (zp_M P, n)) := by
  rw [e_SaddlerKnows_loggedWeeks, zp_C5, Option.bind_some, zp_s5 (Or.inl (Or.inl rfl)), Option.bind_some, zs_min, zs_cI, Option.bind_some]
def zq_refuse (P : zp) (w : Int32) : zp := zp_pt P 268 5 w (zp_gt P 268 5 w + 1)
theorem zs_refused {w : Int32} : zk_sm (d + 1) m_SaddlerKnows_refused [.ref 12, .int w] (zp_M P, n) = some (some (.int (-1)), (zp_M (zq_refuse P w), n)) := by
  rw [e_SaddlerKnows_refused, zp_C10, Option.bind_some, Option.bind_some, zs_at zp_a268 (by decide), zs_cI, Option.bind_some, zs_put zp_a268 (by decide), zs_cV, Option.bind_some]
  rfl
end
