/-! SPECS 2: the class's stands -/
section
variable {P : zp} {n : Nat × Nat} {b d : Nat}
theorem zq_sad_i {i : Nat} (h : i < 8) : zq_sad P b (zi i) = !decide (P.2.1 (b + 1) i = -1) := by
  unfold zq_sad
  rw [decide_eq_false (zi_n (by omega)), decide_eq_true (zi_8 h), zp_gi h (by decide)]
  rfl
theorem zq_on_i {i : Nat} {p : Int32} (h : i < 8) : zq_on P b (zi i) p = (!decide (P.2.1 (b + 1) i = -1) && decide (P.2.1 (b + 2) i = p)) := by
  unfold zq_on
  rw [zq_sad_i h, zp_gi h (by decide)]
def zq_bit (bits i : Int32) : Bool := !decide (i < 0) && decide ((bits >>> (i &&& 31)) &&& 1 = 1)
theorem zs_hasBit {bits i : Int32} {s : zk_S} : zk_sm d m_SaddlerKnows_hasBit [.int bits, .int i] s = some (some (.int (zp_b (zq_bit bits i))), s) := by
  rw [e_SaddlerKnows_hasBit]
  unfold zq_bit
  by_cases h1 : i < 0
  · rw [if_pos h1, decide_eq_true h1]; rfl
  · rw [if_neg h1, decide_eq_false h1]
    by_cases h2 : (bits >>> (i &&& 31)) &&& 1 = 1
    · rw [if_pos h2, decide_eq_true h2]; rfl
    · rw [if_neg h2, decide_eq_false h2]; rfl
def zq_gall (P : zp) (b : Nat) : Int32 := (List.range 6).foldl (fun a i => a + P.2.1 (b + 4) i) 0
theorem zs_allGall (h : zp_sb b) : zk_sm (d + 1) m_Stand_allGall [.ref b] (zp_M P, n) = some (some (.int (zq_gall P b)), (zp_M P, n)) := by
  rw [e_Stand_allGall]
  refine zl_fold (L := fun i a => zk_sf (d + 1) m_Stand_allGall 4 [.ref b, .int a, .int (zi i)] [] (zp_M P, n)) (g := fun i a => a + P.2.1 (b + 4) i) (fin := fun a => (some (.int a), (zp_M P, n))) (m := 6) (fun i a hi => ?_) (fun a => ?_) 0
  · show zk_sf (d + 1) m_Stand_allGall 4 [.ref b, .int a, .int (zi i)] [] (zp_M P, n) = _
    rw [e_Stand_allGall_4, if_pos (zi_6 hi), zp_s3 h, Option.bind_some, zs_at (zp_sb_t h).2.2.2.2 (by decide), zs_cI, Option.bind_some, zi_s, zp_gi hi (by decide)]
  · show zk_sf (d + 1) m_Stand_allGall 4 [.ref b, .int a, .int (zi 6)] [] (zp_M P, n) = _
    rw [e_Stand_allGall_4, if_neg zi_6n]
def zq_free (P : zp) (b : Nat) : Int32 := match (List.range 8).find? (fun i => !zq_sad P b (zi i)) with | some i => zi i | none => -1
theorem zs_freePlace (h : zp_sb b) : zk_sm (d + 2) m_Stand_freePlace [.ref b] (zp_M P, n) = some (some (.int (zq_free P b)), (zp_M P, n)) := by
  rw [e_Stand_freePlace]
  have key := zl_find (L := fun i => zk_sf (d + 2) m_Stand_freePlace 2 [.ref b, .int (zi i)] [] (zp_M P, n)) (f := fun i => !zq_sad P b (zi i)) (r := fun i => ((some (.int (zi i)), (zp_M P, n)) : zk_R)) (r0 := (some (.int (-1)), (zp_M P, n))) (m := 8) (fun i hi => ?_) ?_
  · refine key.trans ?_
    unfold zq_free
    cases (List.range 8).find? (fun i => !zq_sad P b (zi i)) <;> rfl
  · show zk_sf (d + 2) m_Stand_freePlace 2 [.ref b, .int (zi i)] [] (zp_M P, n) = _
    rw [e_Stand_freePlace_2, if_pos (zi_8 hi), zp_sv h, Option.bind_some, zs_isSaddle h, zs_cI, Option.bind_some, zp_ib, zi_s]
    cases zq_sad P b (zi i) <;> rfl
  · show zk_sf (d + 2) m_Stand_freePlace 2 [.ref b, .int (zi 8)] [] (zp_M P, n) = _
    rw [e_Stand_freePlace_2, if_neg zi_8n]
def zq_place (P : zp) (b : Nat) (p q : Int32) : Int32 := match (List.range 8).find? (fun i => zq_on P b (zi i) q && decide (P.2.1 (b + 1) i = p)) with | some i => zi i | none => -1
theorem zs_placeOf (h : zp_sb b) {p q : Int32} : zk_sm (d + 3) m_Stand_placeOf [.ref b, .int p, .int q] (zp_M P, n) = some (some (.int (zq_place P b p q)), (zp_M P, n)) := by
  rw [e_Stand_placeOf]
  have key := zl_find (L := fun i => zk_sf (d + 3) m_Stand_placeOf 2 [.ref b, .int p, .int q, .int (zi i)] [] (zp_M P, n)) (f := fun i => zq_on P b (zi i) q && decide (P.2.1 (b + 1) i = p)) (r := fun i => ((some (.int (zi i)), (zp_M P, n)) : zk_R)) (r0 := (some (.int (-1)), (zp_M P, n))) (m := 8) (fun i hi => ?_) ?_
  · refine key.trans ?_
    unfold zq_place
    cases (List.range 8).find? (fun i => zq_on P b (zi i) q && decide (P.2.1 (b + 1) i = p)) <;> rfl
  · show zk_sf (d + 3) m_Stand_placeOf 2 [.ref b, .int p, .int q, .int (zi i)] [] (zp_M P, n) = _
    rw [e_Stand_placeOf_2, if_pos (zi_8 hi), zp_sv h, Option.bind_some, zs_isOn h, zs_cI, Option.bind_some, zp_ib, zp_s0 h, Option.bind_some, zs_at (zp_sb_t h).2.1 (by decide), zs_cI, Option.bind_some, zi_s, zp_gi hi (by decide)]
    cases zq_on P b (zi i) q with
    | false => rfl
    | true =>
      by_cases h3 : P.2.1 (b + 1) i = p
      · rw [h3, if_pos rfl, decide_eq_true rfl]; rfl
      · rw [if_neg h3, decide_eq_false h3]; rfl
  · show zk_sf (d + 3) m_Stand_placeOf 2 [.ref b, .int p, .int q, .int (zi 8)] [] (zp_M P, n) = _
    rw [e_Stand_placeOf_2, if_neg zi_8n]
def zq_places (P : zp) (b : Nat) : Int32 := (List.range 8).foldl (fun a i => bif zq_sad P b (zi i) then a ||| (1 <<< (zi i &&& 31)) else a) 0
theorem zs_saddlePlaces (h : zp_sb b) : zk_sm (d + 2) m_Stand_saddlePlaces [.ref b] (zp_M P, n) = some (some (.int (zq_places P b)), (zp_M P, n)) := by
  rw [e_Stand_saddlePlaces]
  refine zl_fold (L := fun i a => zk_sf (d + 2) m_Stand_saddlePlaces 4 [.ref b, .int a, .int (zi i)] [] (zp_M P, n)) (g := fun i a => bif zq_sad P b (zi i) then a ||| (1 <<< (zi i &&& 31)) else a) (fin := fun a => (some (.int a), (zp_M P, n))) (m := 8) (fun i a hi => ?_) (fun a => ?_) 0
  · show zk_sf (d + 2) m_Stand_saddlePlaces 4 [.ref b, .int a, .int (zi i)] [] (zp_M P, n) = _
    rw [e_Stand_saddlePlaces_4, if_pos (zi_8 hi), zp_sv h, Option.bind_some, zs_isSaddle h, zs_cI, Option.bind_some, zp_ib, zi_s]
    cases zq_sad P b (zi i) <;> rfl
  · show zk_sf (d + 2) m_Stand_saddlePlaces 4 [.ref b, .int a, .int (zi 8)] [] (zp_M P, n) = _
    rw [e_Stand_saddlePlaces_4, if_neg zi_8n]
def zq_satBy (P : zp) (b : Nat) (p : Int32) : Int32 := (List.range 8).foldl (fun a i => bif zq_sad P b (zi i) && decide (P.2.1 (b + 1) i = p) then a + 1 else a) 0
theorem zs_satBy (h : zp_sb b) {p : Int32} : zk_sm (d + 2) m_Stand_satBy [.ref b, .int p] (zp_M P, n) = some (some (.int (zq_satBy P b p)), (zp_M P, n)) := by
  rw [e_Stand_satBy]
  refine zl_fold (L := fun i a => zk_sf (d + 2) m_Stand_satBy 4 [.ref b, .int p, .int a, .int (zi i)] [] (zp_M P, n)) (g := fun i a => bif zq_sad P b (zi i) && decide (P.2.1 (b + 1) i = p) then a + 1 else a) (fin := fun a => (some (.int a), (zp_M P, n))) (m := 8) (fun i a hi => ?_) (fun a => ?_) 0
  · show zk_sf (d + 2) m_Stand_satBy 4 [.ref b, .int p, .int a, .int (zi i)] [] (zp_M P, n) = _
    rw [e_Stand_satBy_4, if_pos (zi_8 hi), zp_sv h, Option.bind_some, zs_isSaddle h, zs_cI, Option.bind_some, zp_ib, zi_s, zp_s0 h, Option.bind_some, zs_at (zp_sb_t h).2.1 (by decide), zs_cI, Option.bind_some, zp_gi hi (by decide)]
    cases zq_sad P b (zi i) with
    | false => rfl
    | true =>
      by_cases h3 : P.2.1 (b + 1) i = p
      · rw [if_pos h3, decide_eq_true h3]; rfl
      · rw [if_neg h3, decide_eq_false h3]; rfl
  · show zk_sf (d + 2) m_Stand_satBy 4 [.ref b, .int p, .int a, .int (zi 8)] [] (zp_M P, n) = _
    rw [e_Stand_satBy_4, if_neg zi_8n]
def zq_sitting (P : zp) (b : Nat) : Int32 := (List.range 8).foldl (fun a i => bif zq_sad P b (zi i) then a ||| (1 <<< (P.2.1 (b + 1) i &&& 31)) else a) 0
theorem zs_sittingPeople (h : zp_sb b) : zk_sm (d + 2) m_Stand_sittingPeople [.ref b] (zp_M P, n) = some (some (.int (zq_sitting P b)), (zp_M P, n)) := by
  rw [e_Stand_sittingPeople]
  refine zl_fold (L := fun i a => zk_sf (d + 2) m_Stand_sittingPeople 4 [.ref b, .int a, .int (zi i)] [] (zp_M P, n)) (g := fun i a => bif zq_sad P b (zi i) then a ||| (1 <<< (P.2.1 (b + 1) i &&& 31)) else a) (fin := fun a => (some (.int a), (zp_M P, n))) (m := 8) (fun i a hi => ?_) (fun a => ?_) 0
  · show zk_sf (d + 2) m_Stand_sittingPeople 4 [.ref b, .int a, .int (zi i)] [] (zp_M P, n) = _
    rw [e_Stand_sittingPeople_4, if_pos (zi_8 hi), zp_sv h, Option.bind_some, zs_isSaddle h, zs_cI, Option.bind_some, zp_ib, zi_s, zp_s0 h, Option.bind_some, zs_at (zp_sb_t h).2.1 (by decide), zs_cI, Option.bind_some, zp_gi hi (by decide)]
    cases zq_sad P b (zi i) <;> rfl
  · show zk_sf (d + 2) m_Stand_sittingPeople 4 [.ref b, .int a, .int (zi 8)] [] (zp_M P, n) = _
    rw [e_Stand_sittingPeople_4, if_neg zi_8n]
def zq_ridden (P : zp) (b : Nat) (ps : Int32) : Int32 := (List.range 8).foldl (fun a i => bif zq_sad P b (zi i) && zq_bit ps (P.2.1 (b + 1) i) then a ||| (1 <<< (P.2.1 (b + 2) i &&& 31)) else a) 0
theorem zs_riddenBy (h : zp_sb b) {ps : Int32} : zk_sm (d + 2) m_Stand_riddenBy [.ref b, .int ps] (zp_M P, n) = some (some (.int (zq_ridden P b ps)), (zp_M P, n)) := by
  rw [e_Stand_riddenBy]
  refine zl_fold (L := fun i a => zk_sf (d + 2) m_Stand_riddenBy 4 [.ref b, .int ps, .int a, .int (zi i)] [] (zp_M P, n)) (g := fun i a => bif zq_sad P b (zi i) && zq_bit ps (P.2.1 (b + 1) i) then a ||| (1 <<< (P.2.1 (b + 2) i &&& 31)) else a) (fin := fun a => (some (.int a), (zp_M P, n))) (m := 8) (fun i a hi => ?_) (fun a => ?_) 0
  · show zk_sf (d + 2) m_Stand_riddenBy 4 [.ref b, .int ps, .int a, .int (zi i)] [] (zp_M P, n) = _
    rw [e_Stand_riddenBy_4, if_pos (zi_8 hi), zp_sv h, Option.bind_some, zs_isSaddle h, zs_cI, Option.bind_some, zp_ib, zi_s, zp_s0 h, Option.bind_some, zs_at (zp_sb_t h).2.1 (by decide), zs_cI, Option.bind_some, zp_gi hi (by decide), zs_hasBit, zs_cI, Option.bind_some, zp_ib, zp_s1 h, Option.bind_some, zs_at (zp_sb_t h).2.2.1 (by decide), zs_cI, Option.bind_some, zp_gi hi (by decide)]
    cases zq_sad P b (zi i) with
    | false => rfl
    | true => cases zq_bit ps (P.2.1 (b + 1) i) <;> rfl
  · show zk_sf (d + 2) m_Stand_riddenBy 4 [.ref b, .int ps, .int a, .int (zi 8)] [] (zp_M P, n) = _
    rw [e_Stand_riddenBy_4, if_neg zi_8n]
def zq_above (P : zp) (b : Nat) (p : Int32) : Int32 := ((List.range 6).foldl (fun (a : Int32 × Int32) _ => (zq_ridden P b a.1, a.2 ||| zq_ridden P b a.1)) (1 <<< (p &&& 31), 0)).2
theorem zs_above (h : zp_sb b) {p : Int32} : zk_sm (d + 3) m_Stand_above [.ref b, .int p] (zp_M P, n) = some (some (.int (zq_above P b p)), (zp_M P, n)) := by
  rw [e_Stand_above]
  refine zl_fold (L := fun i (a : Int32 × Int32) => zk_sf (d + 3) m_Stand_above 9 [.ref b, .int p, .int a.1, .int a.2, .int (zi i)] [] (zp_M P, n)) (g := fun _ a => (zq_ridden P b a.1, a.2 ||| zq_ridden P b a.1)) (fin := fun a => (some (.int a.2), (zp_M P, n))) (m := 6) (fun i a hi => ?_) (fun a => ?_) (1 <<< (p &&& 31), 0)
  · show zk_sf (d + 3) m_Stand_above 9 [.ref b, .int p, .int a.1, .int a.2, .int (zi i)] [] (zp_M P, n) = _
    rw [e_Stand_above_9, if_pos (zi_6 hi), zp_sv h, Option.bind_some, zs_riddenBy h, zs_cI, Option.bind_some, zi_s]
  · show zk_sf (d + 3) m_Stand_above 9 [.ref b, .int p, .int a.1, .int a.2, .int (zi 6)] [] (zp_M P, n) = _
    rw [e_Stand_above_9, if_neg zi_6n]
/-- a saddle laid -/
def zq_girth (P : zp) (b : Nat) (i p q f : Int32) : zp := zp_pt (zp_pt (zp_pt P (b + 1) 8 i p) (b + 2) 8 i q) (b + 3) 8 i f
theorem zs_girth (h : zp_sb b) {i p q f : Int32} : zk_sm (d + 1) m_Stand_girth [.ref b, .int i, .int p, .int q, .int f] (zp_M P, n) = some (none, (zp_M (zq_girth P b i p q f), n)) := by
  rw [e_Stand_girth, zp_s0 h, Option.bind_some, zs_put (zp_sb_t h).2.1 (by decide), zs_cV, Option.bind_some, zp_s1 h, Option.bind_some, zs_put (zp_sb_t h).2.2.1 (by decide), zs_cV, Option.bind_some, zp_s2 h, Option.bind_some, zs_put (zp_sb_t h).2.2.2.1 (by decide), zs_cV, Option.bind_some]
  rfl
theorem zs_ungirth (h : zp_sb b) {i : Int32} : zk_sm (d + 2) m_Stand_ungirth [.ref b, .int i] (zp_M P, n) = some (none, (zp_M (zq_girth P b i (-1) (-1) 0), n)) := by
  rw [e_Stand_ungirth, zp_sv h, Option.bind_some, zs_girth h, zs_cV, Option.bind_some]
def zq_offAll (P : zp) (b : Nat) (p : Int32) : zp := (List.range 8).foldl (fun P i => bif zq_on P b (zi i) p then zq_girth P b (zi i) (-1) (-1) 0 else P) P
theorem zs_ungirthAll (h : zp_sb b) {p : Int32} : zk_sm (d + 3) m_Stand_ungirthAll [.ref b, .int p] (zp_M P, n) = some (none, (zp_M (zq_offAll P b p), n)) := by
  rw [e_Stand_ungirthAll]
  refine zl_fold (L := fun i P => zk_sf (d + 3) m_Stand_ungirthAll 2 [.ref b, .int p, .int (zi i)] [] (zp_M P, n)) (g := fun i P => bif zq_on P b (zi i) p then zq_girth P b (zi i) (-1) (-1) 0 else P) (fin := fun P => (none, (zp_M P, n))) (m := 8) (fun i P hi => ?_) (fun P => ?_) P
  · show zk_sf (d + 3) m_Stand_ungirthAll 2 [.ref b, .int p, .int (zi i)] [] (zp_M P, n) = _
    rw [e_Stand_ungirthAll_2, if_pos (zi_8 hi), zp_sv h, Option.bind_some, zs_isOn h, zs_cI, Option.bind_some, zp_ib, zs_ungirth h, zs_cV, Option.bind_some, zi_s]
    cases zq_on P b (zi i) p with
    | false => rfl
    | true =>
      show ((zk_rv (zp_M P, n) b 7).bind fun _ => zk_sf (d + 2 + 1) m_Stand_ungirthAll 2 [.ref b, .int p, .int (zi (i + 1))] [] (zp_M (zq_girth P b (zi i) (-1) (-1) 0), n)) = _
      rw [zp_sv h]
      rfl
  · show zk_sf (d + 3) m_Stand_ungirthAll 2 [.ref b, .int p, .int (zi 8)] [] (zp_M P, n) = _
    rw [e_Stand_ungirthAll_2, if_neg zi_8n]
end
