/-! SPECS 18: a week: what both sides do with it; the class's -/
def ysp (V : yV) (i : Nat) (o : Option (Nat × Nat × Nat)) : yV := (fun k => if k = i then o else V.1 k, V.2)
def ysg' (V : yV) (p : Nat) (x : Int32) : yV := (V.1, fun p' => if p' = p then x else V.2.1 p', V.2.2)
/-- the same as far as anybody looks -/
def yE (V V' : yV) : Prop := (∀ k, k < 8 → V.1 k = V'.1 k) ∧ (∀ p, p < 6 → V.2.1 p = V'.2.1 p) ∧ V.2.2 = V'.2.2
theorem yC_e {P : zp} {b : Nat} {V V' : yV} (h : yE V V') (hC : yC P b V) : yC P b V' := by
  obtain ⟨e1, e2, e3⟩ := h
  obtain ⟨h1, h2, h3, h4⟩ := hC
  refine ⟨fun k hk => by rw [← e1 k hk]; exact h1 k hk, fun p hp => by rw [← e2 p hp]; exact h2 p hp, by rw [← e3]; exact h3, by rw [← e3]; exact h4⟩
theorem yR_e {A : Nat → Int32} {V V' : yV} (h : yE V V') (hC : yR A V) : yR A V' := by
  obtain ⟨e1, e2, e3⟩ := h
  obtain ⟨h1, h2, h3, h4⟩ := hC
  refine ⟨fun k hk => by rw [← e1 k hk]; exact h1 k hk, fun p hp => by rw [← e2 p hp]; exact h2 p hp, by rw [← e3]; exact h3, by rw [← e3]; exact h4⟩
/-- one person's week: his gall then, whether he throws; e is idle -/
def yst1 (T : yT) (V : yV) (e p : Nat) : Int32 × Bool := if p = e ∨ ybr V p = false then (zq_max 0 (V.2.1 p - T.2.2.2.2.1), false) else if ygl T V p (V.2.1 p) V.2.2.2 < ylm T p then (ygl T V p (V.2.1 p) V.2.2.2, false) else (ygl T V p (V.2.1 p) V.2.2.2 / 2, true)
/-- the first i persons' week gone by -/
def ymd (T : yT) (V : yV) (e i : Nat) : yV := (fun k => match V.1 k with | some (r, q, f) => if q < i ∧ (yst1 T V e q).2 = true then none else some (r, q, f) | none => none, fun p => if p < i then (yst1 T V e p).1 else V.2.1 p, V.2.2)
def yth1 (T : yT) (V : yV) (e : Nat) (a : Int32) (p : Nat) : Int32 := if (yst1 T V e p).2 = true then a ||| (1 <<< (zi p &&& 31)) else a
/-- who threw (bits) -/
def ytw (T : yT) (V : yV) (e : Nat) : Int32 := (List.range T.1).foldl (yth1 T V e) 0
def ywc (T : yT) (V : yV) (e : Nat) : yV := ((ymd T V e T.1).1, (ymd T V e T.1).2.1, V.2.2.1, V.2.2.2 + 1)
theorem zl_fc {α : Type} {g g' : α → Nat → α} {m : Nat} (h : ∀ i a, i < m → g a i = g' a i) (a : α) : (List.range m).foldl g a = (List.range m).foldl g' a := by
  induction m with
  | zero => rfl
  | succ m ih => rw [zl_rs, zl_rs, ih (fun i a hi => h i a (by omega)), h m _ (by omega)]
section
variable {T : yT} {V : yV} {e i : Nat}
theorem ymd_on {k : Nat} : yon (ymd T V e i) k i = yon V k i := by
  unfold yon
  show (match (match V.1 k with | some (r, q, f) => if q < i ∧ (yst1 T V e q).2 = true then none else some (r, q, f) | none => none) with | some (_, q, _) => decide (q = i) | none => false) = _
  cases hv : V.1 k with
  | none => rfl
  | some x =>
    obtain ⟨r, q, f⟩ := x
    by_cases h : q < i ∧ (yst1 T V e q).2 = true
    · show (match (if q < i ∧ (yst1 T V e q).2 = true then none else some (r, q, f)) with | some (_, q, _) => decide (q = i) | none => false) = decide (q = i)
      rw [if_pos h]
      exact (decide_eq_false (by omega)).symm
    · show (match (if q < i ∧ (yst1 T V e q).2 = true then none else some (r, q, f)) with | some (_, q, _) => decide (q = i) | none => false) = decide (q = i)
      rw [if_neg h]
theorem ymd_br : ybr (ymd T V e i) i = ybr V i := zl_anyc (fun _ _ => ymd_on)
theorem ymd_g : (ymd T V e i).2.1 i = V.2.1 i := if_neg (Nat.lt_irrefl _)
theorem ymd_ld {g : Int32} {w : Nat} : yld T (ymd T V e i) i g w = yld T V i g w := by
  refine zl_fc (fun k a _ => ?_) 0
  unfold yld1
  show (match (match V.1 k with | some (r, q, f) => if q < i ∧ (yst1 T V e q).2 = true then none else some (r, q, f) | none => none) with | some (r, q, f) => if q = i then a + yp T r i f g w else a | none => a) = _
  cases hv : V.1 k with
  | none => rfl
  | some x =>
    obtain ⟨r, q, f⟩ := x
    by_cases h : q < i ∧ (yst1 T V e q).2 = true
    · show (match (if q < i ∧ (yst1 T V e q).2 = true then none else some (r, q, f)) with | some (r, q, f) => if q = i then a + yp T r i f g w else a | none => a) = if q = i then a + yp T r i f g w else a
      rw [if_pos h]
      exact (if_neg (by omega)).symm
    · show (match (if q < i ∧ (yst1 T V e q).2 = true then none else some (r, q, f)) with | some (r, q, f) => if q = i then a + yp T r i f g w else a | none => a) = if q = i then a + yp T r i f g w else a
      rw [if_neg h]
theorem ymd_O {np : Nat} (hO : yO np V) : yO np (ymd T V e i) := by
  refine ⟨fun k r q f hk hv => ?_, hO.2⟩
  have hv : (match V.1 k with | some (r, q, f) => if q < i ∧ (yst1 T V e q).2 = true then none else some (r, q, f) | none => none) = some (r, q, f) := hv
  cases hx : V.1 k with
  | none => rw [hx] at hv; cases hv
  | some x =>
    obtain ⟨r', q', f'⟩ := x
    rw [hx] at hv
    by_cases h : q' < i ∧ (yst1 T V e q').2 = true
    · have hv : (if q' < i ∧ (yst1 T V e q').2 = true then none else some (r', q', f')) = some (r, q, f) := hv
      rw [if_pos h] at hv; cases hv
    · have hv : (if q' < i ∧ (yst1 T V e q').2 = true then none else some (r', q', f')) = some (r, q, f) := hv
      rw [if_neg h] at hv; cases hv
      exact hO.1 k r q f hk hx
theorem ymd_0 : yE V (ymd T V e 0) := by
  refine ⟨fun k _ => ?_, fun p _ => ?_, rfl⟩
  · show V.1 k = (match V.1 k with | some (r, q, f) => if q < 0 ∧ (yst1 T V e q).2 = true then none else some (r, q, f) | none => none)
    cases hv : V.1 k with
    | none => rfl
    | some x =>
      obtain ⟨r, q, f⟩ := x
      exact (if_neg (fun z => absurd z.1 (Nat.not_lt_zero q))).symm
  · show V.2.1 p = if p < 0 then (yst1 T V e p).1 else V.2.1 p
    rw [if_neg (Nat.not_lt_zero p)]
/-- nobody threw: the saddles stay -/
theorem ymd_s0 (h : (yst1 T V e i).2 = false) : yE (ysg' (ymd T V e i) i (yst1 T V e i).1) (ymd T V e (i + 1)) := by
  refine ⟨fun k _ => ?_, fun p _ => ?_, rfl⟩
  · show (match V.1 k with | some (r, q, f) => if q < i ∧ (yst1 T V e q).2 = true then none else some (r, q, f) | none => none) = (match V.1 k with | some (r, q, f) => if q < i + 1 ∧ (yst1 T V e q).2 = true then none else some (r, q, f) | none => none)
    cases hv : V.1 k with
    | none => rfl
    | some x =>
      obtain ⟨r, q, f⟩ := x
      show (if q < i ∧ (yst1 T V e q).2 = true then none else some (r, q, f)) = (if q < i + 1 ∧ (yst1 T V e q).2 = true then none else some (r, q, f))
      by_cases hq : q = i
      · subst hq
        rw [h, if_neg (fun z => by cases z.2), if_neg (fun z => by cases z.2)]
      · by_cases h2 : q < i ∧ (yst1 T V e q).2 = true
        · rw [if_pos h2, if_pos ⟨by omega, h2.2⟩]
        · rw [if_neg h2, if_neg (fun z => h2 ⟨by omega, z.2⟩)]
  · show (if p = i then (yst1 T V e i).1 else if p < i then (yst1 T V e p).1 else V.2.1 p) = (if p < i + 1 then (yst1 T V e p).1 else V.2.1 p)
    by_cases hq : p = i
    · subst hq; rw [if_pos rfl, if_pos (Nat.lt_succ_self _)]
    · rw [if_neg hq]
      by_cases h2 : p < i
      · rw [if_pos h2, if_pos (by omega)]
      · rw [if_neg h2, if_neg (by omega)]
/-- all saddles on p off, of the first j places -/
def yof (V : yV) (p j : Nat) : yV := (fun k => if k < j ∧ yon V k p = true then none else V.1 k, V.2)
theorem ymd_s1 (h : (yst1 T V e i).2 = true) : yE (ysg' (yof (ymd T V e i) i 8) i (yst1 T V e i).1) (ymd T V e (i + 1)) := by
  refine ⟨fun k hk => ?_, fun p _ => ?_, rfl⟩
  · show (if k < 8 ∧ yon (ymd T V e i) k i = true then none else (ymd T V e i).1 k) = (match V.1 k with | some (r, q, f) => if q < i + 1 ∧ (yst1 T V e q).2 = true then none else some (r, q, f) | none => none)
    rw [ymd_on]
    show (if k < 8 ∧ yon V k i = true then none else (match V.1 k with | some (r, q, f) => if q < i ∧ (yst1 T V e q).2 = true then none else some (r, q, f) | none => none)) = _
    unfold yon
    cases hv : V.1 k with
    | none => exact if_neg (fun z => by cases z.2)
    | some x =>
      obtain ⟨r, q, f⟩ := x
      show (if k < 8 ∧ decide (q = i) = true then none else if q < i ∧ (yst1 T V e q).2 = true then none else some (r, q, f)) = (if q < i + 1 ∧ (yst1 T V e q).2 = true then none else some (r, q, f))
      by_cases hq : q = i
      · subst hq
        rw [if_pos ⟨hk, decide_eq_true rfl⟩, if_pos ⟨Nat.lt_succ_self _, h⟩]
      · rw [if_neg (fun z => hq (of_decide_eq_true z.2))]
        by_cases h2 : q < i ∧ (yst1 T V e q).2 = true
        · rw [if_pos h2, if_pos ⟨by omega, h2.2⟩]
        · rw [if_neg h2, if_neg (fun z => h2 ⟨by omega, z.2⟩)]
  · show (if p = i then (yst1 T V e i).1 else if p < i then (yst1 T V e p).1 else V.2.1 p) = (if p < i + 1 then (yst1 T V e p).1 else V.2.1 p)
    by_cases hq : p = i
    · subst hq; rw [if_pos rfl, if_pos (Nat.lt_succ_self _)]
    · rw [if_neg hq]
      by_cases h2 : p < i
      · rw [if_pos h2, if_pos (by omega)]
      · rw [if_neg h2, if_neg (by omega)]
end
/-- a stand's cells -/
abbrev ybk (b : Nat) : List Nat := [b + 1, b + 2, b + 3, b + 4]
abbrev ybj (b : Nat) : List (Nat × Nat) := [(b, 4), (b, 5)]
section
variable {P : zp} {n : Nat × Nat} {b d np : Nat} {V : yV} {T : yT}
theorem yC_set {i : Nat} {o : Option (Nat × Nat × Nat)} {x y z : Int32} (hC : yC P b V) (hi : i < 8) (ho : match o with | none => x = -1 | some (r, q, f) => x = zi r ∧ y = zi q ∧ z = zi f) : yC (zq_girth P b (zi i) x y z) b (ysp V i o) ∧ yF [] (ybk b) P (zq_girth P b (zi i) x y z) := by
  unfold zq_girth
  rw [zp_pi hi (by decide), zp_pi hi (by decide), zp_pi hi (by decide)]
  refine ⟨⟨fun k hk => ?_, fun p hp => ?_, hC.2.2.1, hC.2.2.2⟩, yF_t (yF_t (yF_A (by simp)) (yF_A (by simp))) (yF_A (by simp))⟩
  · have e1 : (zp_sA (zp_sA (zp_sA P (b + 1) i x) (b + 2) i y) (b + 3) i z).2.1 (b + 1) k = if k = i then x else P.2.1 (b + 1) k := by
      show zp_u (zp_u (zp_u P.2.1 (b + 1) i x) (b + 2) i y) (b + 3) i z (b + 1) k = _
      rw [zp_uo (by omega), zp_uo (by omega)]
      unfold zp_u
      by_cases q : k = i
      · rw [if_pos q, if_pos ⟨rfl, q⟩]
      · rw [if_neg q, if_neg (fun z => q z.2)]
    have e2 : (zp_sA (zp_sA (zp_sA P (b + 1) i x) (b + 2) i y) (b + 3) i z).2.1 (b + 2) k = if k = i then y else P.2.1 (b + 2) k := by
      show zp_u (zp_u (zp_u P.2.1 (b + 1) i x) (b + 2) i y) (b + 3) i z (b + 2) k = _
      rw [zp_uo (by omega)]
      by_cases q : k = i
      · rw [if_pos q, q, zp_u9]
      · rw [if_neg q, zp_u8 q, zp_uo (by omega)]
    have e3 : (zp_sA (zp_sA (zp_sA P (b + 1) i x) (b + 2) i y) (b + 3) i z).2.1 (b + 3) k = if k = i then z else P.2.1 (b + 3) k := by
      show zp_u (zp_u (zp_u P.2.1 (b + 1) i x) (b + 2) i y) (b + 3) i z (b + 3) k = _
      by_cases q : k = i
      · rw [if_pos q, q, zp_u9]
      · rw [if_neg q, zp_u8 q, zp_uo (by omega), zp_uo (by omega)]
    rw [e1, e2, e3]
    show match (if k = i then o else V.1 k) with | none => _ | some (r, q, f) => _
    by_cases q : k = i
    · simp only [if_pos q]; exact ho
    · simp only [if_neg q]; exact hC.1 k hk
  · show zp_u (zp_u (zp_u P.2.1 (b + 1) i x) (b + 2) i y) (b + 3) i z (b + 4) p = _
    rw [zp_uo (by omega), zp_uo (by omega), zp_uo (by omega)]
    exact hC.2.1 p hp
theorem yC_gall {p : Nat} {x : Int32} (hC : yC P b V) : yC (zp_sA P (b + 4) p x) b (ysg' V p x) := by
  refine ⟨fun k hk => ?_, fun p' hp => ?_, hC.2.2.1, hC.2.2.2⟩
  · show match V.1 k with | none => zp_u P.2.1 (b + 4) p x (b + 1) k = -1 | some (r, q, f) => zp_u P.2.1 (b + 4) p x (b + 1) k = zi r ∧ zp_u P.2.1 (b + 4) p x (b + 2) k = zi q ∧ zp_u P.2.1 (b + 4) p x (b + 3) k = zi f
    rw [zp_uo (by omega), zp_uo (by omega), zp_uo (by omega)]
    exact hC.1 k hk
  · show zp_u P.2.1 (b + 4) p x (b + 4) p' = if p' = p then x else V.2.1 p'
    by_cases q : p' = p
    · rw [if_pos q, q, zp_u9]
    · rw [if_neg q, zp_u8 q]; exact hC.2.1 p' hp
theorem yC_put {p : Nat} {x : Int32} (hC : yC P b V) (hp : p < 6) : yC (zp_pt P (b + 4) 6 (zi p) x) b (ysg' V p x) ∧ yF [] (ybk b) P (zp_pt P (b + 4) 6 (zi p) x) := by
  rw [zp_pi hp (by decide)]
  exact ⟨yC_gall hC, yF_A (by simp)⟩
theorem yof_n {p j : Nat} (h : yon V j p = false) : yE (yof V p j) (yof V p (j + 1)) := by
  refine ⟨fun k _ => ?_, fun _ _ => rfl, rfl⟩
  show (if k < j ∧ yon V k p = true then none else V.1 k) = (if k < j + 1 ∧ yon V k p = true then none else V.1 k)
  by_cases q : k < j ∧ yon V k p = true
  · rw [if_pos q, if_pos ⟨by omega, q.2⟩]
  · rw [if_neg q, if_neg (fun z => q ⟨by
      have : k ≠ j := fun w => by rw [w, h] at z; cases z.2
      omega, z.2⟩)]
theorem yof_y {p j : Nat} (h : yon V j p = true) : yE (ysp (yof V p j) j none) (yof V p (j + 1)) := by
  refine ⟨fun k _ => ?_, fun _ _ => rfl, rfl⟩
  show (if k = j then none else if k < j ∧ yon V k p = true then none else V.1 k) = (if k < j + 1 ∧ yon V k p = true then none else V.1 k)
  by_cases q0 : k = j
  · rw [if_pos q0, if_pos ⟨by omega, by rw [q0]; exact h⟩]
  · rw [if_neg q0]
    by_cases q : k < j ∧ yon V k p = true
    · rw [if_pos q, if_pos ⟨by omega, q.2⟩]
    · rw [if_neg q, if_neg (fun z => q ⟨by omega, z.2⟩)]
theorem yof_o {p j : Nat} : yon (yof V p j) j p = yon V j p := by
  unfold yon
  show (match (if j < j ∧ _ then none else V.1 j) with | some (_, q, _) => decide (q = p) | none => false) = _
  rw [if_neg (fun z => absurd z.1 (Nat.lt_irrefl _))]
  rfl
theorem yof_0 {p : Nat} : yE V (yof V p 0) := by
  refine ⟨fun k _ => ?_, fun _ _ => rfl, rfl⟩
  show V.1 k = if k < 0 ∧ yon V k p = true then none else V.1 k
  rw [if_neg (fun z => absurd z.1 (Nat.not_lt_zero _))]
theorem yof_O {p j : Nat} (hO : yO np V) : yO np (yof V p j) := by
  refine ⟨fun k r q f hk hv => ?_, hO.2⟩
  have hv : (if k < j ∧ yon V k p = true then none else V.1 k) = some (r, q, f) := hv
  by_cases h : k < j ∧ yon V k p = true
  · rw [if_pos h] at hv; cases hv
  · rw [if_neg h] at hv; exact hO.1 k r q f hk hv
theorem yC_offAll (hC : yC P b V) (hO : yO np V) (h6 : np ≤ 6) {p : Nat} (hp : p < 6) : yC (zq_offAll P b (zi p)) b (yof V p 8) ∧ yF [] (ybk b) P (zq_offAll P b (zi p)) := by
  have key : ∀ j, j ≤ 8 → yC ((List.range j).foldl (fun P i => bif zq_on P b (zi i) (zi p) then zq_girth P b (zi i) (-1) (-1) 0 else P) P) b (yof V p j) ∧ yF [] (ybk b) P ((List.range j).foldl (fun P i => bif zq_on P b (zi i) (zi p) then zq_girth P b (zi i) (-1) (-1) 0 else P) P) := by
    intro j
    induction j with
    | zero => exact fun _ => ⟨yC_e yof_0 hC, yF_r⟩
    | succ j ih =>
      intro hj
      obtain ⟨i1, i2⟩ := ih (by omega)
      rw [zl_rs, yb_on i1 (yof_O hO) h6 (by omega) hp, yof_o]
      cases h : yon V j p with
      | false => exact ⟨yC_e (yof_n h) i1, i2⟩
      | true =>
        obtain ⟨s1, s2⟩ := yC_set (i := j) (o := none) (x := -1) (y := -1) (z := 0) i1 (by omega) rfl
        exact ⟨yC_e (yof_y h) s1, yF_t i2 s2⟩
  exact key 8 (Nat.le_refl _)
theorem ybk_T (h : zp_sb b) : ∀ k, k ∈ [27, 28, 29] → k ∉ ybk b := by
  intro k hk
  simp only [List.mem_cons, List.not_mem_nil, or_false] at hk ⊢
  rcases h with h | ⟨j, hj, h⟩ <;> omega
set_option maxHeartbeats 4000000 in
/-- the class's week -/
theorem zs_pass (h : zp_sb b) (hT : yTC P T) (hC : yC P b V) (hO : yO T.1 V) : ∃ P', zk_sm (d + 8) m_Pinches_pass [.ref 33, .ref b] (zp_M P, n) = some (some (Value.int (ytw T V 99)), (zp_M P', n)) ∧ yC P' b (ywc T V 99) ∧ yF (ybj b) (ybk b) P P' := by
  have h6 := hT.2.1
  have hw := hO.2
  rw [e_Pinches_pass]
  refine zl_ind (m := T.1) (L := fun i (a : Int32 × Value × zp) => zk_sf (d + 8) m_Pinches_pass 4 [.ref 33, .ref b, .int a.1, .int (zi i), a.2.1] [] (zp_M a.2.2, n)) (I := fun i a => yF [] (ybk b) P a.2.2 ∧ yC a.2.2 b (ymd T V 99 i) ∧ a.1 = (List.range i).foldl (yth1 T V 99) 0) (Q := fun r => ∃ P', r = some (some (Value.int (ytw T V 99)), (zp_M P', n)) ∧ yC P' b (ywc T V 99) ∧ yF (ybj b) (ybk b) P P') (fun i a hi hI => Or.inr ?_) (fun a hI => ?_) (a := (0, .retAddr 0, P)) ⟨yF_r, yC_e ymd_0 hC, rfl⟩
  · obtain ⟨x, v, P1⟩ := a
    obtain ⟨f1, c1, hx⟩ := hI
    have f1 : yF [] (ybk b) P P1 := f1
    have c1 : yC P1 b (ymd T V 99 i) := c1
    have hx : x = _ := hx
    have hT1 : yTC P1 T := yTC_F (ybk_T h) (by decide) f1 hT
    have hO1 : yO T.1 (ymd T V 99 i) := ymd_O hO
    have i6 : i < 6 := by omega
    have hg1 : zp_gt P1 (b + 4) 6 (zi i) = V.2.1 i := (yC_g c1 i6).trans ymd_g
    show ∃ a', zk_sf (d + 8) m_Pinches_pass 4 [.ref 33, .ref b, .int x, .int (zi i), v] [] (zp_M P1, n) = _ ∧ _
    rw [e_Pinches_pass_4, zp_L0, Option.bind_some, zp_T2, Option.bind_some, hT1.1, if_pos ((zi_l (by omega) (by omega)).mpr hi), zp_s3 h, Option.bind_some, zs_at (zp_sb_t h).2.2.2.2 (by decide), zs_cI, Option.bind_some, hg1, zp_sv h, Option.bind_some, zs_bears h c1 hO1 h6 i6, ymd_br, zs_cI, Option.bind_some, zp_ib, zi_s]
    cases hb : ybr V i with
    | false =>
      have hs : yst1 T V 99 i = (zq_max 0 (V.2.1 i - T.2.2.2.2.1), false) := if_pos (Or.inr hb)
      obtain ⟨p1, p2⟩ := yC_put (x := zq_max 0 (V.2.1 i - T.2.2.2.2.1)) c1 i6
      have e0 : zk_gI (zp_M P1, n) 26 10 0 = some (P1.1 26 0) := zp_gI (by decide +kernel)
      rw [cond_false, zp_s3 h, Option.bind_some, zp_L0, Option.bind_some, e0, Option.bind_some, hT1.2.2.2.1, zs_max, zs_cI, Option.bind_some, zs_put (zp_sb_t h).2.2.2.2 (by decide), zs_cV, Option.bind_some]
      refine ⟨(x, _, _), rfl, yF_t f1 p2, ?_, ?_⟩
      · refine yC_e (ymd_s0 (by rw [hs])) ?_
        rw [hs]; exact p1
      · rw [zl_rs, ← hx]
        unfold yth1
        rw [hs]; rfl
    | true =>
      obtain ⟨P2, e2, f2⟩ := zs_galledBy (d := d) (n := n) (g := V.2.1 i) h hT1 c1 hO1 hi (w := V.2.2.2) (by omega)
      rw [ymd_ld] at e2
      have c2 := yC_0 f2 h c1
      have f12 : yF [] (ybk b) P P2 := yF_t f1 (yF_m f2 (fun _ h => h) (fun _ h => by cases h))
      have hT2 := yTC_0 f2 hT1
      have h5 : P1.1 b 5 = zi V.2.2.2 := c1.2.2.2
      rw [cond_true, zp_s5 h, Option.bind_some, h5, zp_Lv, Option.bind_some, e2, zs_cI, Option.bind_some, zp_L0, Option.bind_some, zp_Tv, Option.bind_some, ylm_C hT2 hi, zs_cI, Option.bind_some]
      have hs0 : yst1 T V 99 i = if ygl T V i (V.2.1 i) V.2.2.2 < ylm T i then (ygl T V i (V.2.1 i) V.2.2.2, false) else (ygl T V i (V.2.1 i) V.2.2.2 / 2, true) := if_neg (fun z => by
        rcases z with z | z
        · omega
        · rw [hb] at z; cases z)
      show ∃ a', (if ygl T V i (V.2.1 i) V.2.2.2 < ylm T i then _ else _) = _ ∧ _
      by_cases q : ygl T V i (V.2.1 i) V.2.2.2 < ylm T i
      · rw [if_pos q] at hs0
        rw [if_pos q]
        obtain ⟨p1, p2⟩ := yC_put (x := ygl T V i (V.2.1 i) V.2.2.2) c2 i6
        refine ⟨(x, .int (ygl T V i (V.2.1 i) V.2.2.2), zp_pt P2 (b + 4) 6 (zi i) (ygl T V i (V.2.1 i) V.2.2.2)), ?_, yF_t f12 p2, ?_, ?_⟩
        · rw [zp_s3 h, Option.bind_some, show zk_sm (d + 7) m_SaddlerKnows_put _ (zp_M P2, n) = _ from zs_put (zp_sb_t h).2.2.2.2 (by decide), zs_cV, Option.bind_some]
          rfl
        · refine yC_e (ymd_s0 (by rw [hs0])) ?_
          rw [hs0]; exact p1
        · rw [zl_rs]
          show x = _
          rw [← hx]
          unfold yth1
          rw [hs0]; rfl
      · rw [if_neg q] at hs0
        rw [if_neg q]
        obtain ⟨o1, o2⟩ := yC_offAll c2 hO1 h6 i6
        obtain ⟨p1, p2⟩ := yC_put (x := ygl T V i (V.2.1 i) V.2.2.2 / 2) o1 i6
        refine ⟨(x ||| (1 <<< (zi i &&& 31)), .int (ygl T V i (V.2.1 i) V.2.2.2 / 2), zp_pt (zq_offAll P2 b (zi i)) (b + 4) 6 (zi i) (ygl T V i (V.2.1 i) V.2.2.2 / 2)), ?_, yF_t f12 (yF_t o2 p2), ?_, ?_⟩
        · rw [zp_sv h, Option.bind_some, zs_ungirthAll h, zs_cV, Option.bind_some, zp_s3 h, Option.bind_some, show zk_sm (d + 7) m_SaddlerKnows_put _ (zp_M (zq_offAll P2 b (zi i)), n) = _ from zs_put (zp_sb_t h).2.2.2.2 (by decide), zs_cV, Option.bind_some]
          rfl
        · refine yC_e (ymd_s1 (by rw [hs0])) ?_
          rw [hs0]; exact p1
        · rw [zl_rs]
          show x ||| (1 <<< (zi i &&& 31)) = _
          rw [← hx]
          unfold yth1
          rw [hs0]; rfl
  · obtain ⟨x, v, P1⟩ := a
    obtain ⟨f1, c1, hx⟩ := hI
    have f1 : yF [] (ybk b) P P1 := f1
    have c1 : yC P1 b (ymd T V 99 T.1) := c1
    have hx : x = _ := hx
    have hT1 : yTC P1 T := yTC_F (ybk_T h) (by decide) f1 hT
    have h5 : P1.1 b 5 = zi V.2.2.2 := c1.2.2.2
    refine ⟨zp_sF P1 b 5 (zi (V.2.2.2 + 1)), ?_, ⟨fun k hk => c1.1 k hk, fun p hp => c1.2.1 p hp, ?_, ?_⟩, yF_t (yF_m f1 (fun _ h => by cases h) (fun _ h => h)) (yF_f (by simp))⟩
    · show zk_sf (d + 8) m_Pinches_pass 4 [.ref 33, .ref b, .int x, .int (zi T.1), v] [] (zp_M P1, n) = _
      rw [e_Pinches_pass_4, zp_L0, Option.bind_some, zp_T2, Option.bind_some, hT1.1, if_neg (fun z => absurd ((zi_l (by omega) (by omega)).mp z) (Nat.lt_irrefl _)), zp_s5 h, Option.bind_some, zp_s5p h, Option.bind_some, h5, zi_s, hx]
      rfl
    · show (if b = b ∧ 4 = 5 then _ else P1.1 b 4) = _
      rw [if_neg (fun z => absurd z.2 (by decide))]
      exact c1.2.2.1
    · show (if b = b ∧ 5 = 5 then _ else P1.1 b 5) = _
      rw [if_pos ⟨rfl, rfl⟩]
      rfl
end
