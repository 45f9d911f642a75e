/-! SPECS 6: the reference's loops over the places -/
section
variable {P : zp} {n : Nat × Nat} {d : Nat}
theorem zi_o (x : Int32) : x ||| 0 = x := by simp
theorem zi_p (x : Int32) : x + 0 = x := by simp
def zr_ones (P : zp) : Int32 := (List.range 8).foldl (fun a i => bif zr_th P i then a ||| (1 <<< (zi i &&& 31)) else a) 0
theorem zs_RsaddleOnes (hp : 0 < P.1 269 25) : zk_sm (d + 2) m_R_saddleOnes [.ref 269] (zp_M P, n) = some (some (.int (zr_ones P)), (zp_M P, n)) := by
  rw [e_R_saddleOnes]
  refine zl_fold (L := fun i a => zk_sf (d + 2) m_R_saddleOnes 4 [.ref 269, .int a, .int (zi i)] [] (zp_M P, n)) (g := fun i a => bif zr_th P i then a ||| (1 <<< (zi i &&& 31)) else a) (fin := fun a => (some (.int a), (zp_M P, n))) (m := 8) (fun i a hi => ?_) (fun a => ?_) 0
  · show zk_sf (d + 2) m_R_saddleOnes 4 [.ref 269, .int a, .int (zi i)] [] (zp_M P, n) = _
    rw [e_R_saddleOnes_4, if_pos (zi_8 hi), zp_Rv, Option.bind_some, zs_RisThere hp hi, zs_cI, Option.bind_some, zp_ib, zi_s, zi_o]
    cases zr_th P i <;> rfl
  · show zk_sf (d + 2) m_R_saddleOnes 4 [.ref 269, .int a, .int (zi 8)] [] (zp_M P, n) = _
    rw [e_R_saddleOnes_4, if_neg zi_8n]
def zr_born (P : zp) (p : Int32) : Int32 := (List.range 8).foldl (fun a i => bif zr_on P i p then a ||| (1 <<< (zi i &&& 31)) else a) 0
theorem zs_RbornBy (hp : 0 < P.1 269 25) {p : Int32} : zk_sm (d + 3) m_R_bornBy [.ref 269, .int p] (zp_M P, n) = some (some (.int (zr_born P p)), (zp_M P, n)) := by
  rw [e_R_bornBy]
  refine zl_fold (L := fun i a => zk_sf (d + 3) m_R_bornBy 4 [.ref 269, .int p, .int a, .int (zi i)] [] (zp_M P, n)) (g := fun i a => bif zr_on P i p then a ||| (1 <<< (zi i &&& 31)) else a) (fin := fun a => (some (.int a), (zp_M P, n))) (m := 8) (fun i a hi => ?_) (fun a => ?_) 0
  · show zk_sf (d + 3) m_R_bornBy 4 [.ref 269, .int p, .int a, .int (zi i)] [] (zp_M P, n) = _
    rw [e_R_bornBy_4, if_pos (zi_8 hi), zp_Rv, Option.bind_some, zs_RisOn hp hi, zs_cI, Option.bind_some, zp_ib, zi_s, zi_o]
    cases zr_on P i p <;> rfl
  · show zk_sf (d + 3) m_R_bornBy 4 [.ref 269, .int p, .int a, .int (zi 8)] [] (zp_M P, n) = _
    rw [e_R_bornBy_4, if_neg zi_8n]
def zr_satBy (P : zp) (p : Int32) : Int32 := (List.range 8).foldl (fun a i => bif zr_th P i && decide (P.2.1 286 (4 * i + 0) = p) then a + 1 else a) 0
theorem zs_RsatBy (hp : 0 < P.1 269 25) {p : Int32} : zk_sm (d + 2) m_R_satBy [.ref 269, .int p] (zp_M P, n) = some (some (.int (zr_satBy P p)), (zp_M P, n)) := by
  rw [e_R_satBy]
  refine zl_fold (L := fun i a => zk_sf (d + 2) m_R_satBy 4 [.ref 269, .int p, .int a, .int (zi i)] [] (zp_M P, n)) (g := fun i a => bif zr_th P i && decide (P.2.1 286 (4 * i + 0) = p) then a + 1 else a) (fin := fun a => (some (.int a), (zp_M P, n))) (m := 8) (fun i a hi => ?_) (fun a => ?_) 0
  · show zk_sf (d + 2) m_R_satBy 4 [.ref 269, .int p, .int a, .int (zi i)] [] (zp_M P, n) = _
    rw [e_R_satBy_4, if_pos (zi_8 hi), zp_Rv, Option.bind_some, zs_RisThere hp hi, zs_cI, Option.bind_some, zp_ib, zi_s, zi_p, zp_Rv, Option.bind_some, zs_Rof (x := 0) (k := 0) (by omega) rfl, zs_cI, Option.bind_some]
    cases zr_th P i with
    | false => rfl
    | true =>
      by_cases h3 : P.2.1 286 (4 * i + 0) = p
      · rw [if_pos h3, decide_eq_true h3]; rfl
      · rw [if_neg h3, decide_eq_false h3]; rfl
  · show zk_sf (d + 2) m_R_satBy 4 [.ref 269, .int p, .int a, .int (zi 8)] [] (zp_M P, n) = _
    rw [e_R_satBy_4, if_neg zi_8n]
def zr_sits (P : zp) (p q : Int32) : Bool := (List.range 8).any (fun i => zr_on P i q && decide (P.2.1 286 (4 * i + 0) = p))
theorem zs_RsitsOn (hp : 0 < P.1 269 25) {p q : Int32} : zk_sm (d + 3) m_R_sitsOn [.ref 269, .int p, .int q] (zp_M P, n) = some (some (.int (zp_b (zr_sits P p q))), (zp_M P, n)) := by
  rw [e_R_sitsOn]
  have key := zl_any (L := fun i => zk_sf (d + 3) m_R_sitsOn 2 [.ref 269, .int p, .int q, .int (zi i)] [] (zp_M P, n)) (f := fun i => zr_on P i q && decide (P.2.1 286 (4 * i + 0) = p)) (r1 := ((some (.int 1), (zp_M P, n)) : zk_R)) (r0 := (some (.int 0), (zp_M P, n))) (m := 8) (fun i hi => ?_) ?_
  · refine key.trans ?_
    unfold zr_sits
    cases (List.range 8).any (fun i => zr_on P i q && decide (P.2.1 286 (4 * i + 0) = p)) <;> rfl
  · show zk_sf (d + 3) m_R_sitsOn 2 [.ref 269, .int p, .int q, .int (zi i)] [] (zp_M P, n) = _
    rw [e_R_sitsOn_2, if_pos (zi_8 hi), zp_Rv, Option.bind_some, zs_RisOn hp hi, zs_cI, Option.bind_some, zp_ib, zi_s, zp_Rv, Option.bind_some, zs_Rof (x := 0) (k := 0) (by omega) rfl, zs_cI, Option.bind_some]
    cases zr_on P i q with
    | false => rfl
    | true =>
      by_cases h3 : P.2.1 286 (4 * i + 0) = p
      · rw [if_pos h3, decide_eq_true h3]; rfl
      · rw [if_neg h3, decide_eq_false h3]; rfl
  · show zk_sf (d + 3) m_R_sitsOn 2 [.ref 269, .int p, .int q, .int (zi 8)] [] (zp_M P, n) = _
    rw [e_R_sitsOn_2, if_neg zi_8n]
def zr_free (P : zp) : Int32 := match (List.range 8).find? (fun i => decide (P.2.1 286 (4 * i + 3) = 0)) with | some i => zi i | none => -1
theorem zs_RfreePlace : zk_sm (d + 1) m_R_freePlace [.ref 269] (zp_M P, n) = some (some (.int (zr_free P)), (zp_M P, n)) := by
  rw [e_R_freePlace]
  have key := zl_find (L := fun i => zk_sf (d + 1) m_R_freePlace 2 [.ref 269, .int (zi i)] [] (zp_M P, n)) (f := fun i => decide (P.2.1 286 (4 * i + 3) = 0)) (r := fun i => ((some (.int (zi i)), (zp_M P, n)) : zk_R)) (r0 := (some (.int (-1)), (zp_M P, n))) (m := 8) (fun i hi => ?_) ?_
  · refine key.trans ?_
    unfold zr_free
    cases (List.range 8).find? (fun i => decide (P.2.1 286 (4 * i + 3) = 0)) <;> rfl
  · show zk_sf (d + 1) m_R_freePlace 2 [.ref 269, .int (zi i)] [] (zp_M P, n) = _
    rw [e_R_freePlace_2, if_pos (zi_8 hi), zp_Rv, Option.bind_some, zs_Rof (x := 3) (k := 3) (by omega) rfl, zs_cI, Option.bind_some, zi_s]
    by_cases h3 : P.2.1 286 (4 * i + 3) = 0
    · rw [if_pos h3, decide_eq_true h3]; rfl
    · rw [if_neg h3, decide_eq_false h3]; rfl
  · show zk_sf (d + 1) m_R_freePlace 2 [.ref 269, .int (zi 8)] [] (zp_M P, n) = _
    rw [e_R_freePlace_2, if_neg zi_8n]
end
